/-! the reference, on: what is told; the new object -/
section MODEL10
variable {M S : MS} {C : Nat → Int64} {G : AHp} {kc ks np : Nat} {Q : Option Value → AHp → Prop}
def wlsM (M : MS) (p : Nat) : Int32 := (if befM M p p = -1 then 0 else if M 14 (hN (befM M p p)) = -1 then 0 else 1) + (if M 14 p = -1 then 0 else 1)
theorem c_md_wallsOf {p : Nat} (hM : MH G M S C) (hp : p < 24) (h : Q (some (.int (wlsM M p))) G) : A 1 M_md_wallsOf 0 [some (.ref 100), some (.int (nI p)), none] [] G kc ks Q := by
  have J : ∀ v : Int32, v = (if befM M p p = -1 then 0 else if M 14 (hN (befM M p p)) = -1 then 0 else 1) → A 1 M_md_wallsOf 28 [some (.ref 100), some (.int (nI p)), none] [.int v] G kc ks Q := by
    intro v hv
    unfold wlsM at h
    rw [← hv] at h
    refine A.istore_k 2 rfl (Nat.le_of_ble_eq_true rfl) rfl d_md_wallsOf_28 ?_
    dsimp only [List.set]
    refine A.iload_k 2 rfl rfl d_md_wallsOf_29 ?_
    refine A.aload_k 0 rfl rfl rfl d_md_wallsOf_30 ?_
    apply A.getfield f_md_46 d_md_wallsOf_31
    · first | exact hM.1 | exact hM.2.1 _ rfl
    · rfl
    refine A.iload_k 1 rfl rfl d_md_wallsOf_34 ?_
    apply A.iaload (j := p) d_md_wallsOf_35
    · first | exact hM.1 | exact hM.2.1 _ rfl
    · exact ixn (by omega)
    · exact hp
    refine A.iconst (v := -1) rfl d_md_wallsOf_36 ?_
    refine A.icmp_eq 44 (by decide) d_md_wallsOf_37 (fun c37 => ?_) (fun c37 => ?_)
    · refine A.iconst (v := 0) rfl d_md_wallsOf_44 ?_
      refine A.iadd d_md_wallsOf_45 ?_
      refine A.iret d_md_wallsOf_46 rfl ?_
      first | (rw [if_pos c37] at h; exact h) | (rw [if_neg c37] at h; exact h)
    · refine A.iconst (v := 1) rfl d_md_wallsOf_40 ?_
      refine A.goto 45 (by decide) d_md_wallsOf_41 ?_
      refine A.iadd d_md_wallsOf_45 ?_
      refine A.iret d_md_wallsOf_46 rfl ?_
      first | (rw [if_pos c37] at h; exact h) | (rw [if_neg c37] at h; exact h)
  refine A.aload_k 0 rfl rfl rfl d_md_wallsOf_0 ?_
  refine A.iload_k 1 rfl rfl d_md_wallsOf_1 ?_
  refine A.callV1 s_md_132 ?_ (Nat.le_of_ble_eq_true rfl) (Nat.le_of_ble_eq_true rfl) (Nat.le_of_ble_eq_true rfl) d_md_wallsOf_2 rfl (c_md_before hM hp ?_)
  · apply Exists.intro
    first | exact hM.1 | exact hM.2.1 _ rfl
  dsimp only [psh]
  refine A.iconst (v := -1) rfl d_md_wallsOf_5 ?_
  refine A.icmp_eq 27 (by decide) d_md_wallsOf_6 (fun c6 => ?_) (fun c6 => ?_)
  · refine A.iconst (v := 0) rfl d_md_wallsOf_27 ?_
    refine J _ ?_
    first | rw [if_pos c6] | rw [if_neg c6, if_pos c20] | rw [if_neg c6, if_neg c20]
  · have hb := (befM_in M p p).resolve_left c6
    obtain ⟨a, ha, ea⟩ := hb
    refine A.aload_k 0 rfl rfl rfl d_md_wallsOf_9 ?_
    apply A.getfield f_md_46 d_md_wallsOf_10
    · first | exact hM.1 | exact hM.2.1 _ rfl
    · rfl
    refine A.aload_k 0 rfl rfl rfl d_md_wallsOf_13 ?_
    refine A.iload_k 1 rfl rfl d_md_wallsOf_14 ?_
    refine A.callV1 s_md_132 ?_ (Nat.le_of_ble_eq_true rfl) (Nat.le_of_ble_eq_true rfl) (Nat.le_of_ble_eq_true rfl) d_md_wallsOf_15 rfl (c_md_before hM hp ?_)
    · apply Exists.intro
      first | exact hM.1 | exact hM.2.1 _ rfl
    dsimp only [psh]
    apply A.iaload (j := hN (befM M p p)) d_md_wallsOf_18
    · first | exact hM.1 | exact hM.2.1 _ rfl
    · rw [ea, hN_nI (by omega)]; exact ixn (by omega)
    · rw [ea, hN_nI (by omega)]; show a < 24; omega
    refine A.iconst (v := -1) rfl d_md_wallsOf_19 ?_
    refine A.icmp_eq 27 (by decide) d_md_wallsOf_20 (fun c20 => ?_) (fun c20 => ?_)
    · refine A.iconst (v := 0) rfl d_md_wallsOf_27 ?_
      refine J _ ?_
      first | rw [if_pos c6] | rw [if_neg c6, if_pos c20] | rw [if_neg c6, if_neg c20]
    · refine A.iconst (v := 1) rfl d_md_wallsOf_23 ?_
      refine A.goto 28 (by decide) d_md_wallsOf_24 ?_
      refine J _ ?_
      first | rw [if_pos c6] | rw [if_neg c6, if_pos c20] | rw [if_neg c6, if_neg c20]
theorem sw_out {w : Int32} {n i : Nat} (h : w < 0 ∨ nI n ≤ w) (hi : i < n) (hn : n < 1000) : ¬ w = nI i := fun e => by
  subst e
  rcases h with h | h
  · exact nI_pos (by omega) h
  · have := (nI_leI (by omega) (by omega)).mp h; omega
def tldM (M : MS) (p : Nat) (w : Int32) : Int32 := if w = nI 0 then M 6 p else if w = nI 1 then M 4 p else if w = nI 2 then M 5 p else if w = nI 3 then M 7 p else if w = nI 4 then M 11 p else if w = nI 5 then M 12 p else if w = nI 6 then wlsM M p else -1
theorem c_md_told {x w : Int32} (hM : MH G M S C) (hw : WF M np) (h0 : (∀ q, q < np → x ≠ nI q) → Q (some (.int (-1))) G) (h1 : ∀ p, p < np → x = nI p → Q (some (.int (tldM M p w))) G) : A 2 M_md_told 0 [some (.ref 100), some (.int x), some (.int w)] [] G kc ks Q := by
  obtain ⟨hn, hn2, -⟩ := hw
  have main : ∀ p, p < np → Q (some (.int (tldM M p w))) G → A 2 M_md_told 10 [some (.ref 100), some (.int (nI p)), some (.int w)] [] G kc ks Q := by
    intro p hp h
    refine A.iload_k 2 rfl rfl d_md_told_10 ?_
    refine A.tsw [52, 59, 66, 73, 80, 87, 94] 100 d_md_told_11 (by decide) (by decide) (by decide) (fun i t hi hx => ?_) (fun hx => ?_) (by decide)
    · subst hx
      rcases i with _ | _ | _ | _ | _ | _ | _ | i
      · cases hi
        refine A.aload_k 0 rfl rfl rfl d_md_told_52 ?_
        apply A.getfield f_md_22 d_md_told_53
        · first | exact hM.1 | exact hM.2.1 _ rfl
        · rfl
        refine A.iload_k 1 rfl rfl d_md_told_56 ?_
        apply A.iaload (j := p) d_md_told_57
        · first | exact hM.1 | exact hM.2.1 _ rfl
        · exact ixn (by omega)
        · show p < 24; omega
        refine A.iret d_md_told_58 rfl ?_
        exact h
      · cases hi
        refine A.aload_k 0 rfl rfl rfl d_md_told_59 ?_
        apply A.getfield f_md_16 d_md_told_60
        · first | exact hM.1 | exact hM.2.1 _ rfl
        · rfl
        refine A.iload_k 1 rfl rfl d_md_told_63 ?_
        apply A.iaload (j := p) d_md_told_64
        · first | exact hM.1 | exact hM.2.1 _ rfl
        · exact ixn (by omega)
        · show p < 24; omega
        refine A.iret d_md_told_65 rfl ?_
        exact h
      · cases hi
        refine A.aload_k 0 rfl rfl rfl d_md_told_66 ?_
        apply A.getfield f_md_19 d_md_told_67
        · first | exact hM.1 | exact hM.2.1 _ rfl
        · rfl
        refine A.iload_k 1 rfl rfl d_md_told_70 ?_
        apply A.iaload (j := p) d_md_told_71
        · first | exact hM.1 | exact hM.2.1 _ rfl
        · exact ixn (by omega)
        · show p < 24; omega
        refine A.iret d_md_told_72 rfl ?_
        exact h
      · cases hi
        refine A.aload_k 0 rfl rfl rfl d_md_told_73 ?_
        apply A.getfield f_md_25 d_md_told_74
        · first | exact hM.1 | exact hM.2.1 _ rfl
        · rfl
        refine A.iload_k 1 rfl rfl d_md_told_77 ?_
        apply A.iaload (j := p) d_md_told_78
        · first | exact hM.1 | exact hM.2.1 _ rfl
        · exact ixn (by omega)
        · show p < 24; omega
        refine A.iret d_md_told_79 rfl ?_
        exact h
      · cases hi
        refine A.aload_k 0 rfl rfl rfl d_md_told_80 ?_
        apply A.getfield f_md_37 d_md_told_81
        · first | exact hM.1 | exact hM.2.1 _ rfl
        · rfl
        refine A.iload_k 1 rfl rfl d_md_told_84 ?_
        apply A.iaload (j := p) d_md_told_85
        · first | exact hM.1 | exact hM.2.1 _ rfl
        · exact ixn (by omega)
        · show p < 24; omega
        refine A.iret d_md_told_86 rfl ?_
        exact h
      · cases hi
        refine A.aload_k 0 rfl rfl rfl d_md_told_87 ?_
        apply A.getfield f_md_40 d_md_told_88
        · first | exact hM.1 | exact hM.2.1 _ rfl
        · rfl
        refine A.iload_k 1 rfl rfl d_md_told_91 ?_
        apply A.iaload (j := p) d_md_told_92
        · first | exact hM.1 | exact hM.2.1 _ rfl
        · exact ixn (by omega)
        · show p < 24; omega
        refine A.iret d_md_told_93 rfl ?_
        exact h
      · cases hi
        refine A.aload_k 0 rfl rfl rfl d_md_told_94 ?_
        refine A.iload_k 1 rfl rfl d_md_told_95 ?_
        refine A.callV1 s_md_192 ?_ (Nat.le_of_ble_eq_true rfl) (Nat.le_of_ble_eq_true rfl) (Nat.le_of_ble_eq_true rfl) d_md_told_96 rfl (c_md_wallsOf hM (by omega) ?_)
        · apply Exists.intro
          first | exact hM.1 | exact hM.2.1 _ rfl
        dsimp only [psh]
        refine A.iret d_md_told_99 rfl ?_
        exact h
      · simp at hi
    · unfold tldM at h
      rw [if_neg (sw_out hx (by decide) (by decide)), if_neg (sw_out hx (by decide) (by decide)), if_neg (sw_out hx (by decide) (by decide)), if_neg (sw_out hx (by decide) (by decide)), if_neg (sw_out hx (by decide) (by decide)), if_neg (sw_out hx (by decide) (by decide)), if_neg (sw_out hx (by decide) (by decide))] at h
      refine A.iconst (v := -1) rfl d_md_told_100 ?_
      refine A.iret d_md_told_101 rfl ?_
      exact h
  refine A.aload_k 0 rfl rfl rfl d_md_told_0 ?_
  refine A.iload_k 1 rfl rfl d_md_told_1 ?_
  refine A.callV1 s_md_101 ?_ (Nat.le_of_ble_eq_true rfl) (Nat.le_of_ble_eq_true rfl) (Nat.le_of_ble_eq_true rfl) d_md_told_2 rfl (c_md_isPlot hM hn hn2 (fun q j1 j2 => ?_) (fun j3 => ?_))
  · apply Exists.intro
    exact hM.1
  · dsimp only [psh]
    refine A.if_ne1 10 (by decide) d_md_told_5 ?_
    subst j2
    exact main q j1 (h1 q j1 rfl)
  · dsimp only [psh]
    refine A.if_ne0 d_md_told_5 (tgt := 10) (by decide) ?_
    refine A.iconst (v := -1) rfl d_md_told_8 ?_
    refine A.iret d_md_told_9 rfl ?_
    exact h0 j3
def chnM (M : MS) (p j : Nat) (w : Int32) : Int32 := if w = nI 0 then M 8 (4 * p + j) else if w = nI 1 then M 9 (4 * p + j) else if w = nI 2 then (if nI j = 0 then 0 else M 10 (4 * p + j)) else -1
theorem c_md_chain {x k w : Int32} (hM : MH G M S C) (hw : WF M np) (h0 : (∀ p j l, p < np → x = nI p → M 7 p = nI l → l ≤ 3 → j ≤ l → k = nI j → (M 6 p = 2 ∨ M 6 p = 3)) → Q (some (.int (-1))) G) (h1 : ∀ p j l, p < np → x = nI p → M 7 p = nI l → l ≤ 3 → j ≤ l → k = nI j → ¬ (M 6 p = 2 ∨ M 6 p = 3) → Q (some (.int (chnM M p j w))) G) : A 3 M_md_chain 0 [some (.ref 100), some (.int x), some (.int k), some (.int w)] [] G kc ks Q := by
  have hn2 := hw.2.1
  have main : ∀ p j, p < np → j ≤ 3 → Q (some (.int (chnM M p j w))) G → A 3 M_md_chain 11 [some (.ref 100), some (.int (nI p)), some (.int (nI j)), some (.int w)] [] G kc ks Q := by
    intro p j hp hj h
    refine A.iload_k 3 rfl rfl d_md_chain_11 ?_
    refine A.tsw [40, 51, 62] 81 d_md_chain_12 (by decide) (by decide) (by decide) (fun i t hi hx => ?_) (fun hx => ?_) (by decide)
    · subst hx
      rcases i with _ | _ | _ | i
      · cases hi
        refine A.aload_k 0 rfl rfl rfl d_md_chain_40 ?_
        apply A.getfield f_md_28 d_md_chain_41
        · first | exact hM.1 | exact hM.2.1 _ rfl
        · rfl
        refine A.iconst (v := 4) rfl d_md_chain_44 ?_
        refine A.iload_k 1 rfl rfl d_md_chain_45 ?_
        refine A.imul d_md_chain_46 ?_
        refine A.iload_k 2 rfl rfl d_md_chain_47 ?_
        refine A.iadd d_md_chain_48 ?_
        apply A.iaload (j := 4 * p + j) d_md_chain_49
        · first | exact hM.1 | exact hM.2.1 _ rfl
        · exact ix4 (by omega) (by omega)
        · show 4 * p + j < 96; omega
        refine A.iret d_md_chain_50 rfl ?_
        exact h
      · cases hi
        refine A.aload_k 0 rfl rfl rfl d_md_chain_51 ?_
        apply A.getfield f_md_31 d_md_chain_52
        · first | exact hM.1 | exact hM.2.1 _ rfl
        · rfl
        refine A.iconst (v := 4) rfl d_md_chain_55 ?_
        refine A.iload_k 1 rfl rfl d_md_chain_56 ?_
        refine A.imul d_md_chain_57 ?_
        refine A.iload_k 2 rfl rfl d_md_chain_58 ?_
        refine A.iadd d_md_chain_59 ?_
        apply A.iaload (j := 4 * p + j) d_md_chain_60
        · first | exact hM.1 | exact hM.2.1 _ rfl
        · exact ix4 (by omega) (by omega)
        · show 4 * p + j < 96; omega
        refine A.iret d_md_chain_61 rfl ?_
        exact h
      · cases hi
        have h : Q (some (.int (if nI j = 0 then 0 else M 10 (4 * p + j)))) G := h
        refine A.iload_k 2 rfl rfl d_md_chain_62 ?_
        refine A.if_ne 70 (by decide) d_md_chain_63 (fun c63 => ?_) (fun c63 => ?_)
        · refine A.aload_k 0 rfl rfl rfl d_md_chain_70 ?_
          apply A.getfield f_md_34 d_md_chain_71
          · first | exact hM.1 | exact hM.2.1 _ rfl
          · rfl
          refine A.iconst (v := 4) rfl d_md_chain_74 ?_
          refine A.iload_k 1 rfl rfl d_md_chain_75 ?_
          refine A.imul d_md_chain_76 ?_
          refine A.iload_k 2 rfl rfl d_md_chain_77 ?_
          refine A.iadd d_md_chain_78 ?_
          apply A.iaload (j := 4 * p + j) d_md_chain_79
          · first | exact hM.1 | exact hM.2.1 _ rfl
          · exact ix4 (by omega) (by omega)
          · show 4 * p + j < 96; omega
          refine A.iret d_md_chain_80 rfl ?_
          first | (rw [if_pos c63] at h; exact h) | (rw [if_neg c63] at h; exact h)
        · refine A.iconst (v := 0) rfl d_md_chain_66 ?_
          refine A.goto 80 (by decide) d_md_chain_67 ?_
          refine A.iret d_md_chain_80 rfl ?_
          first | (rw [if_pos c63] at h; exact h) | (rw [if_neg c63] at h; exact h)
      · simp at hi
    · unfold chnM at h
      rw [if_neg (sw_out hx (by decide) (by decide)), if_neg (sw_out hx (by decide) (by decide)), if_neg (sw_out hx (by decide) (by decide))] at h
      refine A.iconst (v := -1) rfl d_md_chain_81 ?_
      refine A.iret d_md_chain_82 rfl ?_
      exact h
  refine A.aload_k 0 rfl rfl rfl d_md_chain_0 ?_
  refine A.iload_k 1 rfl rfl d_md_chain_1 ?_
  refine A.iload_k 2 rfl rfl d_md_chain_2 ?_
  refine A.callV2 s_md_110 ?_ (Nat.le_of_ble_eq_true rfl) (Nat.le_of_ble_eq_true rfl) (Nat.le_of_ble_eq_true rfl) d_md_chain_3 rfl (c_md_isPlace hM hw (fun p j l q1 q2 q3 q33 q4 q5 q6 => ?_) (fun q7 => ?_))
  · apply Exists.intro
    exact hM.1
  · dsimp only [psh]
    refine A.if_ne1 11 (by decide) d_md_chain_6 ?_
    subst q2
    subst q5
    exact main p j q1 (by omega) (h1 p j l q1 rfl q3 q33 q4 rfl q6)
  · dsimp only [psh]
    refine A.if_ne0 d_md_chain_6 (tgt := 11) (by decide) ?_
    refine A.iconst (v := -1) rfl d_md_chain_9 ?_
    refine A.iret d_md_chain_10 rfl ?_
    exact h0 q7
def cntS (M : MS) (s : Int32) : Nat → Int32
  | 0 => 0
  | n + 1 => cntS M s n + (if M 6 n = s then 1 else 0)
theorem c_md_countOf {s : Int32} (hM : MH G M S C) (hn : M 2 0 = nI np) (hn2 : np ≤ 24) (h : Q (some (.int (cntS M s np))) G) : A 0 M_md_countOf 0 [some (.ref 100), some (.int s), none, none] [] G kc ks Q := by
  have loop : ∀ (k i : Nat), i ≤ np → np < i + k → A 0 M_md_countOf 4 [some (.ref 100), some (.int s), some (.int (cntS M s i)), some (.int (nI i))] [] G kc ks Q := by
    intro k
    induction k with
    | zero => intro i h1 h2; omega
    | succ k ih =>
      intro i h1 h2
      refine A.iload_k 3 rfl rfl d_md_countOf_4 ?_
      refine A.aload_k 0 rfl rfl rfl d_md_countOf_5 ?_
      apply A.getfield f_md_84 d_md_countOf_6
      · first | exact hM.1 | exact hM.2.1 _ rfl
      · rfl
      refine A.icmp_ge 36 (by decide) d_md_countOf_9 (fun c9 => ?_) (fun c9 => ?_)
      · refine A.iload_k 2 rfl rfl d_md_countOf_36 ?_
        refine A.iret d_md_countOf_37 rfl ?_
        rw [hn] at c9
        have e : i = np := by
          have := (nI_leI (by omega) (by omega)).mp c9
          omega
        subst e
        exact h
      · rw [hn] at c9
        have hlt : i < np := Nat.lt_of_not_le (fun z => c9 (nI_le z (by omega)))
        refine A.iload_k 2 rfl rfl d_md_countOf_12 ?_
        refine A.aload_k 0 rfl rfl rfl d_md_countOf_13 ?_
        apply A.getfield f_md_22 d_md_countOf_14
        · first | exact hM.1 | exact hM.2.1 _ rfl
        · rfl
        refine A.iload_k 3 rfl rfl d_md_countOf_17 ?_
        apply A.iaload (j := i) d_md_countOf_18
        · first | exact hM.1 | exact hM.2.1 _ rfl
        · exact nI_toInt (by omega)
        · show i < 24; omega
        refine A.iload_k 1 rfl rfl d_md_countOf_19 ?_
        refine A.icmp_ne 27 (by decide) d_md_countOf_20 (fun c20 => ?_) (fun c20 => ?_)
        · refine A.iconst (v := 0) rfl d_md_countOf_27 ?_
          refine A.iadd d_md_countOf_28 ?_
          refine A.istore_k 2 rfl (Nat.le_of_ble_eq_true rfl) rfl d_md_countOf_29 ?_
          dsimp only [List.set]
          refine A.iincp (n := 3) rfl (Nat.le_of_ble_eq_true rfl) d_md_countOf_30 ?_
          dsimp only [List.set]
          refine A.goto 4 (by decide) d_md_countOf_33 ?_
          rw [nI_1]
          have ih := ih (i + 1) (by omega) (by omega)
          unfold cntS at ih
          first | rw [if_pos c20] at ih | rw [if_neg c20] at ih
          exact ih
        · refine A.iconst (v := 1) rfl d_md_countOf_23 ?_
          refine A.goto 28 (by decide) d_md_countOf_24 ?_
          refine A.iadd d_md_countOf_28 ?_
          refine A.istore_k 2 rfl (Nat.le_of_ble_eq_true rfl) rfl d_md_countOf_29 ?_
          dsimp only [List.set]
          refine A.iincp (n := 3) rfl (Nat.le_of_ble_eq_true rfl) d_md_countOf_30 ?_
          dsimp only [List.set]
          refine A.goto 4 (by decide) d_md_countOf_33 ?_
          rw [nI_1]
          have ih := ih (i + 1) (by omega) (by omega)
          unfold cntS at ih
          first | rw [if_pos c20] at ih | rw [if_neg c20] at ih
          exact ih
  refine A.iconst (v := 0) rfl d_md_countOf_0 ?_
  refine A.istore_k 2 rfl (Nat.le_of_ble_eq_true rfl) rfl d_md_countOf_1 ?_
  dsimp only [List.set]
  refine A.iconst (v := 0) rfl d_md_countOf_2 ?_
  refine A.istore_k 3 rfl (Nat.le_of_ble_eq_true rfl) rfl d_md_countOf_3 ?_
  dsimp only [List.set]
  exact loop (np + 1) 0 (by omega) (by omega)
def cnt0 (M : MS) : Nat → Int32
  | 0 => 0
  | n + 1 => cnt0 M n + (if M 20 n = 0 then 1 else 0)
def ctM (M : MS) (np nw : Nat) (w : Int32) : Int32 := if w = nI 0 then M 0 0 else if w = nI 1 then M 2 0 else if w = nI 2 then cntS M 1 np else if w = nI 3 then cntS M 2 np else if w = nI 4 then cntS M 3 np else if w = nI 5 then M 22 0 else if w = nI 6 then cnt0 M nw else if w = nI 7 then M 23 0 else -1
theorem c_md_count {w : Int32} {nw : Nat} (hM : MH G M S C) (hn : M 2 0 = nI np) (hn2 : np ≤ 24) (hw1 : M 19 0 = nI nw) (hw2 : nw ≤ 20) (h : Q (some (.int (ctM M np nw w))) G) : A 1 M_md_count 0 [some (.ref 100), some (.int w), none, none] [] G kc ks Q := by
  refine A.iconst (v := 0) rfl d_md_count_0 ?_
  refine A.istore_k 2 rfl (Nat.le_of_ble_eq_true rfl) rfl d_md_count_1 ?_
  dsimp only [List.set]
  refine A.iload_k 1 rfl rfl d_md_count_2 ?_
  refine A.tsw [48, 53, 58, 64, 70, 76, 81, 116] 121 d_md_count_3 (by decide) (by decide) (by decide) (fun i t hi hx => ?_) (fun hx => ?_) (by decide)
  · subst hx
    rcases i with _ | _ | _ | _ | _ | _ | _ | _ | i
    · cases hi
      refine A.aload_k 0 rfl rfl rfl d_md_count_48 ?_
      apply A.getfield f_md_129 d_md_count_49
      · exact hM.1
      · rfl
      refine A.iret d_md_count_52 rfl ?_
      exact h
    · cases hi
      refine A.aload_k 0 rfl rfl rfl d_md_count_53 ?_
      apply A.getfield f_md_84 d_md_count_54
      · exact hM.1
      · rfl
      refine A.iret d_md_count_57 rfl ?_
      exact h
    · cases hi
      refine A.aload_k 0 rfl rfl rfl d_md_count_58 ?_
      refine A.iconst (v := 1) rfl d_md_count_59 ?_
      refine A.callV1 s_md_195 ?_ (Nat.le_of_ble_eq_true rfl) (Nat.le_of_ble_eq_true rfl) (Nat.le_of_ble_eq_true rfl) d_md_count_60 rfl (c_md_countOf hM hn hn2 ?_)
      · apply Exists.intro
        exact hM.1
      dsimp only [psh]
      refine A.iret d_md_count_63 rfl ?_
      exact h
    · cases hi
      refine A.aload_k 0 rfl rfl rfl d_md_count_64 ?_
      refine A.iconst (v := 2) rfl d_md_count_65 ?_
      refine A.callV1 s_md_195 ?_ (Nat.le_of_ble_eq_true rfl) (Nat.le_of_ble_eq_true rfl) (Nat.le_of_ble_eq_true rfl) d_md_count_66 rfl (c_md_countOf hM hn hn2 ?_)
      · apply Exists.intro
        exact hM.1
      dsimp only [psh]
      refine A.iret d_md_count_69 rfl ?_
      exact h
    · cases hi
      refine A.aload_k 0 rfl rfl rfl d_md_count_70 ?_
      refine A.iconst (v := 3) rfl d_md_count_71 ?_
      refine A.callV1 s_md_195 ?_ (Nat.le_of_ble_eq_true rfl) (Nat.le_of_ble_eq_true rfl) (Nat.le_of_ble_eq_true rfl) d_md_count_72 rfl (c_md_countOf hM hn hn2 ?_)
      · apply Exists.intro
        exact hM.1
      dsimp only [psh]
      refine A.iret d_md_count_75 rfl ?_
      exact h
    · cases hi
      refine A.aload_k 0 rfl rfl rfl d_md_count_76 ?_
      apply A.getfield f_md_149 d_md_count_77
      · exact hM.1
      · rfl
      refine A.iret d_md_count_80 rfl ?_
      exact h
    · cases hi
      have h : Q (some (.int (cnt0 M nw))) G := h
      have loop : ∀ (k i : Nat), i ≤ nw → nw < i + k → A 1 M_md_count 83 [some (.ref 100), some (.int (nI 6)), some (.int (cnt0 M i)), some (.int (nI i))] [] G kc ks Q := by
        intro k
        induction k with
        | zero => intro i h1 h2; omega
        | succ k ih =>
          intro i h1 h2
          refine A.iload_k 3 rfl rfl d_md_count_83 ?_
          refine A.aload_k 0 rfl rfl rfl d_md_count_84 ?_
          apply A.getfield f_md_155 d_md_count_85
          · first | exact hM.1 | exact hM.2.1 _ rfl
          · rfl
          refine A.icmp_ge 114 (by decide) d_md_count_88 (fun c88 => ?_) (fun c88 => ?_)
          · refine A.iload_k 2 rfl rfl d_md_count_114 ?_
            refine A.iret d_md_count_115 rfl ?_
            rw [hw1] at c88
            have e : i = nw := by
              have := (nI_leI (by omega) (by omega)).mp c88
              omega
            subst e
            exact h
          · rw [hw1] at c88
            have hlt : i < nw := Nat.lt_of_not_le (fun z => c88 (nI_le z (by omega)))
            refine A.iload_k 2 rfl rfl d_md_count_91 ?_
            refine A.aload_k 0 rfl rfl rfl d_md_count_92 ?_
            apply A.getfield f_md_62 d_md_count_93
            · first | exact hM.1 | exact hM.2.1 _ rfl
            · rfl
            refine A.iload_k 3 rfl rfl d_md_count_96 ?_
            apply A.iaload (j := i) d_md_count_97
            · first | exact hM.1 | exact hM.2.1 _ rfl
            · exact nI_toInt (by omega)
            · show i < 20; omega
            refine A.if_ne 105 (by decide) d_md_count_98 (fun c98 => ?_) (fun c98 => ?_)
            · refine A.iconst (v := 0) rfl d_md_count_105 ?_
              refine A.iadd d_md_count_106 ?_
              refine A.istore_k 2 rfl (Nat.le_of_ble_eq_true rfl) rfl d_md_count_107 ?_
              dsimp only [List.set]
              refine A.iincp (n := 3) rfl (Nat.le_of_ble_eq_true rfl) d_md_count_108 ?_
              dsimp only [List.set]
              refine A.goto 83 (by decide) d_md_count_111 ?_
              rw [nI_1]
              have ih := ih (i + 1) (by omega) (by omega)
              unfold cnt0 at ih
              first | rw [if_pos c98] at ih | rw [if_neg c98] at ih
              exact ih
            · refine A.iconst (v := 1) rfl d_md_count_101 ?_
              refine A.goto 106 (by decide) d_md_count_102 ?_
              refine A.iadd d_md_count_106 ?_
              refine A.istore_k 2 rfl (Nat.le_of_ble_eq_true rfl) rfl d_md_count_107 ?_
              dsimp only [List.set]
              refine A.iincp (n := 3) rfl (Nat.le_of_ble_eq_true rfl) d_md_count_108 ?_
              dsimp only [List.set]
              refine A.goto 83 (by decide) d_md_count_111 ?_
              rw [nI_1]
              have ih := ih (i + 1) (by omega) (by omega)
              unfold cnt0 at ih
              first | rw [if_pos c98] at ih | rw [if_neg c98] at ih
              exact ih
      refine A.iconst (v := 0) rfl d_md_count_81 ?_
      refine A.istore_k 3 rfl (Nat.le_of_ble_eq_true rfl) rfl d_md_count_82 ?_
      dsimp only [List.set]
      exact loop (nw + 1) 0 (by omega) (by omega)
    · cases hi
      refine A.aload_k 0 rfl rfl rfl d_md_count_116 ?_
      apply A.getfield f_md_142 d_md_count_117
      · exact hM.1
      · rfl
      refine A.iret d_md_count_120 rfl ?_
      exact h
    · simp at hi
  · unfold ctM at h
    rw [if_neg (sw_out hx (by decide) (by decide)), if_neg (sw_out hx (by decide) (by decide)), if_neg (sw_out hx (by decide) (by decide)), if_neg (sw_out hx (by decide) (by decide)), if_neg (sw_out hx (by decide) (by decide)), if_neg (sw_out hx (by decide) (by decide)), if_neg (sw_out hx (by decide) (by decide)), if_neg (sw_out hx (by decide) (by decide))] at h
    refine A.iconst (v := -1) rfl d_md_count_121 ?_
    refine A.iret d_md_count_122 rfl ?_
    exact h
/-- the stakes of a new object -/
def stkF : Nat → Nat → Int32
  | 0 => fun _ => 0
  | k + 1 => upd (stkF k) k (-1)
def M0 : MS := fun k => if k = 16 then fun _ => 2 else if k = 17 then fun _ => 3 else if k = 18 then fun _ => 10 else if k = 24 then stkF 48 else fun _ => 0
theorem c_md_init (hO : G 100 = some (oB 1 [.int 0, .null, .int 0, .null, .null, .null, .null, .null, .null, .null, .null, .null, .null, .null, .null, .null, .int 0, .int 0, .int 0, .int 0, .null, .int 0, .int 0, .int 0, .null, .null, .null, .null, .int 0, .int 0, .null, .null])) (hfree : ∀ a, 200 ≤ a → a < 300 → G a = none) (h : ∀ G' S' C', MH G' M0 S' C' → FrM G G' → Q none G') : A 1 M_md_init 0 [some (.ref 100), none] [] G 30 4000 Q := by
  have loop : ∀ (k i : Nat) (G' : AHp), i + k = 48 → MH G' (va_up M0 24 (stkF i)) (fun _ _ => 0) (fun _ => 0) → FrM G G' → A 1 M_md_init 189 [some (.ref 100), some (.int (nI i))] [] G' 9 647 Q := by
    intro k
    induction k with
    | zero =>
      intro i G' hi hM' hF
      have e : i = 48 := by omega
      subst e
      have e9 : va_up M0 24 (stkF 48) = M0 := by
        funext q
        show (if q = 24 then stkF 48 else M0 q) = M0 q
        by_cases e : q = 24
        · rw [if_pos e, e]; rfl
        · rw [if_neg e]
      rw [e9] at hM'
      refine A.iload_k 1 rfl rfl d_md_init_189 ?_
      refine A.bipush (v := 48) rfl d_md_init_190 ?_
      refine A.icmp_ge 208 (by decide) d_md_init_192 (fun c192 => ?_) (fun c192 => ?_)
      · refine A.vret d_md_init_208 rfl ?_
        exact h G' _ _ hM' hF
      · exact absurd (by decide) c192
    | succ k ih =>
      intro i G' hi hM' hF
      refine A.iload_k 1 rfl rfl d_md_init_189 ?_
      refine A.bipush (v := 48) rfl d_md_init_190 ?_
      refine A.icmp_ge 208 (by decide) d_md_init_192 (fun c192 => ?_) (fun c192 => ?_)
      · exact absurd c192 (nI_ge (b := 48) (by omega) (by omega))
      refine A.aload_k 0 rfl rfl rfl d_md_init_195 ?_
      apply A.getfield f_md_65 d_md_init_196
      · first | exact hM'.1 | exact hM'.2.1 _ rfl
      · rfl
      refine A.iload_k 1 rfl rfl d_md_init_199 ?_
      refine A.iconst (v := -1) rfl d_md_init_200 ?_
      apply A.iastore (j := i) d_md_init_201
      · first | exact hM'.1 | exact hM'.2.1 _ rfl
      · first | decide | omega
      · exact ixn (by omega)
      · show i < 48; omega
      refine A.iincp (n := 1) rfl (Nat.le_of_ble_eq_true rfl) d_md_init_202 ?_
      dsimp only [List.set]
      refine A.goto 189 (by decide) d_md_init_205 ?_
      rw [nI_1]
      refine ih (i + 1) _ (by omega) ?_ (hF.up (by decide) (by decide))
      have z := hM'.arr 24 rfl (upd (stkF i) i (-1))
      rw [bx_uu] at z
      exact z
  refine A.aload_k 0 rfl rfl rfl d_md_init_0 ?_
  refine A.objInit d_md_init_1 o_md_1 (Nat.le_of_ble_eq_true rfl) (Nat.le_of_ble_eq_true rfl) ?_
  refine A.aload_k 0 rfl rfl rfl d_md_init_4 ?_
  refine A.bipush (v := 20) rfl d_md_init_5 ?_
  refine A.newI (a := 201) (n := 20) d_md_init_7 (by decide) (by decide) (by first | decide | omega) (by repeat first | refine up_e (by decide) ?_ | exact hfree _ (by decide) (by decide)) (kc' := 29) (ks' := 3980) (Nat.le_of_ble_eq_true rfl) (Nat.le_of_ble_eq_true rfl) ac_int ?_
  apply A.putfin q_md_9 rfl d_md_init_9
  · repeat first | exact up_s | refine up_e (by decide) ?_ | exact hO
  · exact (Nat.le_of_ble_eq_true rfl)
  · rfl
  dsimp only [List.set]
  refine A.aload_k 0 rfl rfl rfl d_md_init_12 ?_
  refine A.bipush (v := 24) rfl d_md_init_13 ?_
  refine A.newI (a := 203) (n := 24) d_md_init_15 (by decide) (by decide) (by first | decide | omega) (by repeat first | refine up_e (by decide) ?_ | exact hfree _ (by decide) (by decide)) (kc' := 28) (ks' := 3956) (Nat.le_of_ble_eq_true rfl) (Nat.le_of_ble_eq_true rfl) ac_int ?_
  apply A.putfin q_md_13 rfl d_md_init_17
  · repeat first | exact up_s | refine up_e (by decide) ?_ | exact hO
  · exact (Nat.le_of_ble_eq_true rfl)
  · rfl
  dsimp only [List.set]
  refine A.aload_k 0 rfl rfl rfl d_md_init_20 ?_
  refine A.bipush (v := 24) rfl d_md_init_21 ?_
  refine A.newI (a := 204) (n := 24) d_md_init_23 (by decide) (by decide) (by first | decide | omega) (by repeat first | refine up_e (by decide) ?_ | exact hfree _ (by decide) (by decide)) (kc' := 27) (ks' := 3932) (Nat.le_of_ble_eq_true rfl) (Nat.le_of_ble_eq_true rfl) ac_int ?_
  apply A.putfin q_md_16 rfl d_md_init_25
  · repeat first | exact up_s | refine up_e (by decide) ?_ | exact hO
  · exact (Nat.le_of_ble_eq_true rfl)
  · rfl
  dsimp only [List.set]
  refine A.aload_k 0 rfl rfl rfl d_md_init_28 ?_
  refine A.bipush (v := 24) rfl d_md_init_29 ?_
  refine A.newI (a := 205) (n := 24) d_md_init_31 (by decide) (by decide) (by first | decide | omega) (by repeat first | refine up_e (by decide) ?_ | exact hfree _ (by decide) (by decide)) (kc' := 26) (ks' := 3908) (Nat.le_of_ble_eq_true rfl) (Nat.le_of_ble_eq_true rfl) ac_int ?_
  apply A.putfin q_md_19 rfl d_md_init_33
  · repeat first | exact up_s | refine up_e (by decide) ?_ | exact hO
  · exact (Nat.le_of_ble_eq_true rfl)
  · rfl
  dsimp only [List.set]
  refine A.aload_k 0 rfl rfl rfl d_md_init_36 ?_
  refine A.bipush (v := 24) rfl d_md_init_37 ?_
  refine A.newI (a := 206) (n := 24) d_md_init_39 (by decide) (by decide) (by first | decide | omega) (by repeat first | refine up_e (by decide) ?_ | exact hfree _ (by decide) (by decide)) (kc' := 25) (ks' := 3884) (Nat.le_of_ble_eq_true rfl) (Nat.le_of_ble_eq_true rfl) ac_int ?_
  apply A.putfin q_md_22 rfl d_md_init_41
  · repeat first | exact up_s | refine up_e (by decide) ?_ | exact hO
  · exact (Nat.le_of_ble_eq_true rfl)
  · rfl
  dsimp only [List.set]
  refine A.aload_k 0 rfl rfl rfl d_md_init_44 ?_
  refine A.bipush (v := 24) rfl d_md_init_45 ?_
  refine A.newI (a := 207) (n := 24) d_md_init_47 (by decide) (by decide) (by first | decide | omega) (by repeat first | refine up_e (by decide) ?_ | exact hfree _ (by decide) (by decide)) (kc' := 24) (ks' := 3860) (Nat.le_of_ble_eq_true rfl) (Nat.le_of_ble_eq_true rfl) ac_int ?_
  apply A.putfin q_md_25 rfl d_md_init_49
  · repeat first | exact up_s | refine up_e (by decide) ?_ | exact hO
  · exact (Nat.le_of_ble_eq_true rfl)
  · rfl
  dsimp only [List.set]
  refine A.aload_k 0 rfl rfl rfl d_md_init_52 ?_
  refine A.bipush (v := 96) rfl d_md_init_53 ?_
  refine A.newI (a := 208) (n := 96) d_md_init_55 (by decide) (by decide) (by first | decide | omega) (by repeat first | refine up_e (by decide) ?_ | exact hfree _ (by decide) (by decide)) (kc' := 23) (ks' := 3764) (Nat.le_of_ble_eq_true rfl) (Nat.le_of_ble_eq_true rfl) ac_int ?_
  apply A.putfin q_md_28 rfl d_md_init_57
  · repeat first | exact up_s | refine up_e (by decide) ?_ | exact hO
  · exact (Nat.le_of_ble_eq_true rfl)
  · rfl
  dsimp only [List.set]
  refine A.aload_k 0 rfl rfl rfl d_md_init_60 ?_
  refine A.bipush (v := 96) rfl d_md_init_61 ?_
  refine A.newI (a := 209) (n := 96) d_md_init_63 (by decide) (by decide) (by first | decide | omega) (by repeat first | refine up_e (by decide) ?_ | exact hfree _ (by decide) (by decide)) (kc' := 22) (ks' := 3668) (Nat.le_of_ble_eq_true rfl) (Nat.le_of_ble_eq_true rfl) ac_int ?_
  apply A.putfin q_md_31 rfl d_md_init_65
  · repeat first | exact up_s | refine up_e (by decide) ?_ | exact hO
  · exact (Nat.le_of_ble_eq_true rfl)
  · rfl
  dsimp only [List.set]
  refine A.aload_k 0 rfl rfl rfl d_md_init_68 ?_
  refine A.bipush (v := 96) rfl d_md_init_69 ?_
  refine A.newI (a := 210) (n := 96) d_md_init_71 (by decide) (by decide) (by first | decide | omega) (by repeat first | refine up_e (by decide) ?_ | exact hfree _ (by decide) (by decide)) (kc' := 21) (ks' := 3572) (Nat.le_of_ble_eq_true rfl) (Nat.le_of_ble_eq_true rfl) ac_int ?_
  apply A.putfin q_md_34 rfl d_md_init_73
  · repeat first | exact up_s | refine up_e (by decide) ?_ | exact hO
  · exact (Nat.le_of_ble_eq_true rfl)
  · rfl
  dsimp only [List.set]
  refine A.aload_k 0 rfl rfl rfl d_md_init_76 ?_
  refine A.bipush (v := 24) rfl d_md_init_77 ?_
  refine A.newI (a := 211) (n := 24) d_md_init_79 (by decide) (by decide) (by first | decide | omega) (by repeat first | refine up_e (by decide) ?_ | exact hfree _ (by decide) (by decide)) (kc' := 20) (ks' := 3548) (Nat.le_of_ble_eq_true rfl) (Nat.le_of_ble_eq_true rfl) ac_int ?_
  apply A.putfin q_md_37 rfl d_md_init_81
  · repeat first | exact up_s | refine up_e (by decide) ?_ | exact hO
  · exact (Nat.le_of_ble_eq_true rfl)
  · rfl
  dsimp only [List.set]
  refine A.aload_k 0 rfl rfl rfl d_md_init_84 ?_
  refine A.bipush (v := 24) rfl d_md_init_85 ?_
  refine A.newI (a := 212) (n := 24) d_md_init_87 (by decide) (by decide) (by first | decide | omega) (by repeat first | refine up_e (by decide) ?_ | exact hfree _ (by decide) (by decide)) (kc' := 19) (ks' := 3524) (Nat.le_of_ble_eq_true rfl) (Nat.le_of_ble_eq_true rfl) ac_int ?_
  apply A.putfin q_md_40 rfl d_md_init_89
  · repeat first | exact up_s | refine up_e (by decide) ?_ | exact hO
  · exact (Nat.le_of_ble_eq_true rfl)
  · rfl
  dsimp only [List.set]
  refine A.aload_k 0 rfl rfl rfl d_md_init_92 ?_
  refine A.bipush (v := 24) rfl d_md_init_93 ?_
  refine A.newI (a := 213) (n := 24) d_md_init_95 (by decide) (by decide) (by first | decide | omega) (by repeat first | refine up_e (by decide) ?_ | exact hfree _ (by decide) (by decide)) (kc' := 18) (ks' := 3500) (Nat.le_of_ble_eq_true rfl) (Nat.le_of_ble_eq_true rfl) ac_int ?_
  apply A.putfin q_md_43 rfl d_md_init_97
  · repeat first | exact up_s | refine up_e (by decide) ?_ | exact hO
  · exact (Nat.le_of_ble_eq_true rfl)
  · rfl
  dsimp only [List.set]
  refine A.aload_k 0 rfl rfl rfl d_md_init_100 ?_
  refine A.bipush (v := 24) rfl d_md_init_101 ?_
  refine A.newI (a := 214) (n := 24) d_md_init_103 (by decide) (by decide) (by first | decide | omega) (by repeat first | refine up_e (by decide) ?_ | exact hfree _ (by decide) (by decide)) (kc' := 17) (ks' := 3476) (Nat.le_of_ble_eq_true rfl) (Nat.le_of_ble_eq_true rfl) ac_int ?_
  apply A.putfin q_md_46 rfl d_md_init_105
  · repeat first | exact up_s | refine up_e (by decide) ?_ | exact hO
  · exact (Nat.le_of_ble_eq_true rfl)
  · rfl
  dsimp only [List.set]
  refine A.aload_k 0 rfl rfl rfl d_md_init_108 ?_
  refine A.bipush (v := 24) rfl d_md_init_109 ?_
  refine A.newI (a := 215) (n := 24) d_md_init_111 (by decide) (by decide) (by first | decide | omega) (by repeat first | refine up_e (by decide) ?_ | exact hfree _ (by decide) (by decide)) (kc' := 16) (ks' := 3452) (Nat.le_of_ble_eq_true rfl) (Nat.le_of_ble_eq_true rfl) ac_int ?_
  apply A.putfin q_md_49 rfl d_md_init_113
  · repeat first | exact up_s | refine up_e (by decide) ?_ | exact hO
  · exact (Nat.le_of_ble_eq_true rfl)
  · rfl
  dsimp only [List.set]
  refine A.aload_k 0 rfl rfl rfl d_md_init_116 ?_
  refine A.iconst (v := 2) rfl d_md_init_117 ?_
  apply A.putfield p_md_52 d_md_init_118
  · repeat first | exact up_s | refine up_e (by decide) ?_ | exact hO
  · exact (Nat.le_of_ble_eq_true rfl)
  · rfl
  dsimp only [List.set]
  refine A.aload_k 0 rfl rfl rfl d_md_init_121 ?_
  refine A.iconst (v := 3) rfl d_md_init_122 ?_
  apply A.putfield p_md_56 d_md_init_123
  · repeat first | exact up_s | refine up_e (by decide) ?_ | exact hO
  · exact (Nat.le_of_ble_eq_true rfl)
  · rfl
  dsimp only [List.set]
  refine A.aload_k 0 rfl rfl rfl d_md_init_126 ?_
  refine A.bipush (v := 10) rfl d_md_init_127 ?_
  apply A.putfield p_md_59 d_md_init_129
  · repeat first | exact up_s | refine up_e (by decide) ?_ | exact hO
  · exact (Nat.le_of_ble_eq_true rfl)
  · rfl
  dsimp only [List.set]
  refine A.aload_k 0 rfl rfl rfl d_md_init_132 ?_
  refine A.bipush (v := 20) rfl d_md_init_133 ?_
  refine A.newI (a := 220) (n := 20) d_md_init_135 (by decide) (by decide) (by first | decide | omega) (by repeat first | refine up_e (by decide) ?_ | exact hfree _ (by decide) (by decide)) (kc' := 15) (ks' := 3432) (Nat.le_of_ble_eq_true rfl) (Nat.le_of_ble_eq_true rfl) ac_int ?_
  apply A.putfin q_md_62 rfl d_md_init_137
  · repeat first | exact up_s | refine up_e (by decide) ?_ | exact hO
  · exact (Nat.le_of_ble_eq_true rfl)
  · rfl
  dsimp only [List.set]
  refine A.aload_k 0 rfl rfl rfl d_md_init_140 ?_
  refine A.bipush (v := 48) rfl d_md_init_141 ?_
  refine A.newI (a := 224) (n := 48) d_md_init_143 (by decide) (by decide) (by first | decide | omega) (by repeat first | refine up_e (by decide) ?_ | exact hfree _ (by decide) (by decide)) (kc' := 14) (ks' := 3384) (Nat.le_of_ble_eq_true rfl) (Nat.le_of_ble_eq_true rfl) ac_int ?_
  apply A.putfin q_md_65 rfl d_md_init_145
  · repeat first | exact up_s | refine up_e (by decide) ?_ | exact hO
  · exact (Nat.le_of_ble_eq_true rfl)
  · rfl
  dsimp only [List.set]
  refine A.aload_k 0 rfl rfl rfl d_md_init_148 ?_
  refine A.iconst (v := 4) rfl d_md_init_149 ?_
  refine A.newI (a := 225) (n := 4) d_md_init_150 (by decide) (by decide) (by first | decide | omega) (by repeat first | refine up_e (by decide) ?_ | exact hfree _ (by decide) (by decide)) (kc' := 13) (ks' := 3380) (Nat.le_of_ble_eq_true rfl) (Nat.le_of_ble_eq_true rfl) ac_int ?_
  apply A.putfin q_md_68 rfl d_md_init_152
  · repeat first | exact up_s | refine up_e (by decide) ?_ | exact hO
  · exact (Nat.le_of_ble_eq_true rfl)
  · rfl
  dsimp only [List.set]
  refine A.aload_k 0 rfl rfl rfl d_md_init_155 ?_
  refine A.iconst (v := 4) rfl d_md_init_156 ?_
  refine A.newL (a := 226) (n := 4) d_md_init_157 (by decide) (by decide) (by first | decide | omega) (by repeat first | refine up_e (by decide) ?_ | exact hfree _ (by decide) (by decide)) (kc' := 12) (ks' := 3376) (Nat.le_of_ble_eq_true rfl) (Nat.le_of_ble_eq_true rfl) ac_long ?_
  apply A.putfin q_md_71 rfl d_md_init_159
  · repeat first | exact up_s | refine up_e (by decide) ?_ | exact hO
  · exact (Nat.le_of_ble_eq_true rfl)
  · rfl
  dsimp only [List.set]
  refine A.aload_k 0 rfl rfl rfl d_md_init_162 ?_
  refine A.bipush (v := 12) rfl d_md_init_163 ?_
  refine A.newI (a := 227) (n := 12) d_md_init_165 (by decide) (by decide) (by first | decide | omega) (by repeat first | refine up_e (by decide) ?_ | exact hfree _ (by decide) (by decide)) (kc' := 11) (ks' := 3364) (Nat.le_of_ble_eq_true rfl) (Nat.le_of_ble_eq_true rfl) ac_int ?_
  apply A.putfin q_md_75 rfl d_md_init_167
  · repeat first | exact up_s | refine up_e (by decide) ?_ | exact hO
  · exact (Nat.le_of_ble_eq_true rfl)
  · rfl
  dsimp only [List.set]
  refine A.aload_k 0 rfl rfl rfl d_md_init_170 ?_
  refine A.bipush (v := 8) rfl d_md_init_171 ?_
  refine A.newI (a := 230) (n := 8) d_md_init_173 (by decide) (by decide) (by first | decide | omega) (by repeat first | refine up_e (by decide) ?_ | exact hfree _ (by decide) (by decide)) (kc' := 10) (ks' := 3356) (Nat.le_of_ble_eq_true rfl) (Nat.le_of_ble_eq_true rfl) ac_int ?_
  apply A.putfin q_md_78 rfl d_md_init_175
  · repeat first | exact up_s | refine up_e (by decide) ?_ | exact hO
  · exact (Nat.le_of_ble_eq_true rfl)
  · rfl
  dsimp only [List.set]
  refine A.aload_k 0 rfl rfl rfl d_md_init_178 ?_
  refine A.sipush (v := 2709) rfl d_md_init_179 ?_
  refine A.newI (a := 231) (n := 2709) d_md_init_182 (by decide) (by decide) (by first | decide | omega) (by repeat first | refine up_e (by decide) ?_ | exact hfree _ (by decide) (by decide)) (kc' := 9) (ks' := 647) (Nat.le_of_ble_eq_true rfl) (Nat.le_of_ble_eq_true rfl) ac_int ?_
  apply A.putfin q_md_81 rfl d_md_init_184
  · repeat first | exact up_s | refine up_e (by decide) ?_ | exact hO
  · exact (Nat.le_of_ble_eq_true rfl)
  · rfl
  dsimp only [List.set]
  refine A.iconst (v := 0) rfl d_md_init_187 ?_
  refine A.istore_k 1 rfl (Nat.le_of_ble_eq_true rfl) rfl d_md_init_188 ?_
  dsimp only [List.set]
  refine loop 48 0 _ rfl ?_ ?_
  · refine ⟨by repeat first | exact up_s | refine up_e (by decide) ?_, fun k hk => ?_, fun k hk => ?_, by repeat first | exact up_s | refine up_e (by decide) ?_⟩
    · unfold mArr at hk
      split at hk <;> first | (cases hk; done) | (repeat first | exact up_s | refine up_e (by decide) ?_)
    · unfold sArr at hk
      split at hk <;> first | (cases hk; done) | (repeat first | exact up_s | refine up_e (by decide) ?_)
  · repeat (first | exact FrM.rf | refine FrM.up ?_ (by decide) (by decide))
end MODEL10
