/-! the component: an act of a street -/
section ACT
variable {M S : MS} {G : AHp} {kc ks np : Nat} {Q : Option Value → AHp → Prop}
theorem mEnds_o {p k : Nat} {how : Int32} (h6 : k ≠ 6) (h7 : k ≠ 7) : mEnds M p how k = M k := by
  unfold mEnds
  rw [vn h7, vn h6]
/-- a plot is lost -/
theorem CH.lose {p : Nat} {how : Int32} {u v w : Value} (hC : CH G M np) (hw : WF M np) (hp : p < np) (hh : how = 2 ∨ how = 3) (a1 : u = .ref (1002 + 16 * p) ∧ v = .ref (1003 + 16 * p) ∧ w = .ref (1004 + 16 * p)) : CH (up (up G (1000 + 16 * p) (oB 5 [.int (M 4 p), .int (M 5 p), .int how, .ref (1001 + 16 * p), .int (M 11 p), .int (M 12 p), .int (M 13 p), wV (wlA M p), wV (wlB M np p)])) (1001 + 16 * p) (oB 3 [u, v, w, .int 0])) (mEnds M p how) np := by
  obtain ⟨rfl, rfl, rfl⟩ := a1
  have e6 : mEnds M p how 6 = upd (M 6) p how := rfl
  have e7 : mEnds M p how 7 = upd (M 7) p 0 := rfl
  have hz : zM (mEnds M p how) p = 0 := zM_gone (by rw [e6, upd_eq]; exact hh)
  obtain ⟨P, Y, R, a1, a2, a3, a4, a5⟩ := (hC.pl hp).2.1
  refine hC.one hw hp (fun a ha => (up_n (by omega)).trans (up_n (by omega))) (fun k hk => mEnds_o (by omega) (by omega)) (fun q k hq => ?_) (fun q k j hq h1 h2 h3 => by rw [mEnds_o (by omega) (by omega)]) ⟨?_, ⟨P, Y, R, ?_, ?_, ?_, ?_, fun j hj => ?_⟩, ?_⟩
  · by_cases c6 : k = 6
    · subst c6; rw [e6, upd_ne hq]; exact Or.inl rfl
    · by_cases c7 : k = 7
      · subst c7; rw [e7, upd_ne hq]; exact Or.inl rfl
      · rw [mEnds_o c6 c7]; exact Or.inl rfl
  · rw [up_n (by omega), up_s]
    unfold plO
    rw [wVA (M := M) (M' := mEnds M p how) rfl, wVB (M := M) (M' := mEnds M p how) rfl, e6, upd_eq]
    rfl
  · rw [hz]; exact up_s
  · exact up_e (by omega) (up_e (by omega) a2)
  · exact up_e (by omega) (up_e (by omega) a3)
  · exact up_e (by omega) (up_e (by omega) a4)
  · omega
  · exact (hC.pl hp).2.2.fr ((up_n (by omega)).trans (up_n (by omega))) rfl rfl rfl
/-- a plot is less deep -/
theorem CH.depth {p : Nat} {d : Int32} (hC : CH G M np) (hw : WF M np) (hp : p < np) : CH (up G (1000 + 16 * p) (oB 5 [.int (M 4 p), .int d, .int (M 6 p), .ref (1001 + 16 * p), .int (M 11 p), .int (M 12 p), .int (M 13 p), wV (wlA M p), wV (wlB M np p)])) (va_up M 5 (upd (M 5) p d)) np := by
  refine hC.one hw hp (fun a ha => up_n (by omega)) (fun k hk => vn (by omega)) (fun q k hq => ?_) (fun q k j hq h1 h2 h3 => by rw [vn (by omega)]) ⟨?_, (hC.pl hp).2.1.fr (fun a x y => up_n (by omega)) (Or.inl rfl) rfl (fun _ _ => ⟨rfl, rfl, rfl⟩), (hC.pl hp).2.2.fr (up_n (by omega)) rfl rfl rfl⟩
  · by_cases e : k = 5
    · subst e; rw [vs, upd_ne hq]; exact Or.inl rfl
    · rw [vn e]; exact Or.inl rfl
  · rw [up_s]
    unfold plO
    rw [wVA (M := M) (M' := va_up M 5 _) rfl, wVB (M := M) (M' := va_up M 5 _) rfl, vs, upd_eq]
    rfl
theorem c_af_widen {p : Nat} {n : Int32} (hC : CH G M np) (hw : WF M np) (hp : p < np) (h : ∀ G', CH G' (actS M (M 3 p) n p) np → FrC G G' → Q (some (.int (actG M (M 3 p) n p))) G') : A 3 M_af_widenInto 0 [some (.ref 20), some (.ref (1000 + 16 * p)), some (.int n), none, none] [] G kc ks Q := by
  have hr := hC.root.1
  have h21 := hC.root.2
  have hpl : G (1000 + 16 * p) = some (plO M np p) := (hC.pl hp).1
  unfold plO at hpl
  obtain ⟨P, Y, R, a1, a2, a3, a4, a5⟩ := (hC.pl hp).2.1
  unfold actS actG at h
  rw [if_pos rfl, if_pos rfl] at h
  by_cases c : M 6 p = 0
  · rw [if_pos c, if_pos c] at h
    have g : ¬ (M 6 p = 2 ∨ M 6 p = 3) := by rw [c]; decide
    obtain ⟨l, l1, l2⟩ := hw.2.2.1 p
    have hz := zM_of g l2 l1
    rw [hz] at a1 a5
    obtain ⟨o, o1, o2⟩ := hw.2.2.2.1 (4 * p)
    have hC2 : CH (up (up G 21 (aI 20 (upd (M 1) o (M 1 o + goesA M n p * M 17 0)))) 20 (rtO (va_up (va_up M 1 (upd (M 1) o (M 1 o + goesA M n p * M 17 0))) 23 (fun _ => M 23 0 + goesA M n p * M 17 0)))) (actP M n p) np := by
      unfold actP
      rw [o2, hN_nI (by omega)]
      exact (hC.purse hw _).rootf (hw.up _ (by decide) (by decide) (by decide) (by decide) (by decide)) 23 (by decide) _
    have hw2 : WF (actP M n p) np := hw.actP
    have e81 : actP M n p 3 = M 3 := rfl
    have fl : ∀ u v w, (u = Value.ref (1002 + 16 * p) ∧ v = Value.ref (1003 + 16 * p) ∧ w = Value.ref (1004 + 16 * p)) → CH _ (mEnds (actP M n p) p 3) np := fun u v w => CH.lose hC2 hw2 hp (Or.inr rfl)
    have fd := CH.depth (d := M 5 p - n) hC2 hw2 hp
    unfold goesA at h fl fd
    rw [wVA e81, wVB e81] at fd
    have fl := fl _ _ _ ⟨rfl, rfl, rfl⟩
    rw [wVA e81, wVB e81] at fl
    refine A.aload_k 1 rfl rfl rfl d_af_widenInto_0 ?_
    apply A.getfield f_af_110 d_af_widenInto_1
    · repeat first | assumption | exact up_s | refine up_e (by omega) ?_
    · rfl
    refine A.if_eq 9 (by decide) d_af_widenInto_4 (fun c4 => ?_) (fun c4 => ?_)
    · refine A.aload_k 1 rfl rfl rfl d_af_widenInto_9 ?_
      apply A.getfield f_af_235 d_af_widenInto_10
      · repeat first | assumption | exact up_s | refine up_e (by omega) ?_
      · rfl
      refine A.iload_k 2 rfl rfl d_af_widenInto_13 ?_
      refine A.isub d_af_widenInto_14 ?_
      refine A.bipush (v := 20) rfl d_af_widenInto_15 ?_
      refine A.icmp_ge 24 (by decide) d_af_widenInto_17 (fun c17 => ?_) (fun c17 => ?_)
      · refine A.iconst (v := 0) rfl d_af_widenInto_24 ?_
        refine A.istore_k 3 rfl (Nat.le_of_ble_eq_true rfl) rfl d_af_widenInto_25 ?_
        dsimp only [List.set]
        refine A.aload_k 1 rfl rfl rfl d_af_widenInto_26 ?_
        apply A.getfield f_af_232 d_af_widenInto_27
        · repeat first | assumption | exact up_s | refine up_e (by omega) ?_
        · rfl
        refine A.iload_k 3 rfl rfl d_af_widenInto_30 ?_
        refine A.if_eq0 41 (by decide) d_af_widenInto_31 ?_
        refine A.iload_k 2 rfl rfl d_af_widenInto_41 ?_
        refine A.imul d_af_widenInto_42 ?_
        refine A.istore (Nat.le_of_ble_eq_true rfl) rfl d_af_widenInto_43 ?_
        dsimp only [List.set]
        refine A.aload_k 0 rfl rfl rfl d_af_widenInto_45 ?_
        refine A.aload_k 1 rfl rfl rfl d_af_widenInto_46 ?_
        apply A.getfield f_af_113 d_af_widenInto_47
        · repeat first | assumption | exact up_s | refine up_e (by omega) ?_
        · rfl
        refine A.iconst (v := 0) rfl d_af_widenInto_50 ?_
        refine A.callV1 s_af_152 ?_ (Nat.le_of_ble_eq_true rfl) (Nat.le_of_ble_eq_true rfl) (Nat.le_of_ble_eq_true rfl) d_af_widenInto_51 rfl (c_ch_personAt (by repeat first | assumption | exact up_s | refine up_e (by omega) ?_) (by repeat first | assumption | exact up_s | refine up_e (by omega) ?_) (by omega) (fun j r1 r2 => ?_) (fun r3 => absurd rfl (r3 0 (by omega))))
        · apply Exists.intro
          repeat first | assumption | exact up_s | refine up_e (by omega) ?_
        dsimp only [psh]
        obtain rfl : 0 = j := nI_inj (by omega) (by omega) r2
        rw [(a5 0 r1).1, show M 8 (4 * p + 0) = nI o from o2]
        refine A.iload rfl d_af_widenInto_54 ?_
        refine A.aload_k 0 rfl rfl rfl d_af_widenInto_56 ?_
        apply A.getfield f_af_61 d_af_widenInto_57
        · repeat first | assumption | exact up_s | refine up_e (by omega) ?_
        · rfl
        refine A.imul d_af_widenInto_60 ?_
        refine A.callV2 s_af_81 ?_ (Nat.le_of_ble_eq_true rfl) (Nat.le_of_ble_eq_true rfl) (Nat.le_of_ble_eq_true rfl) d_af_widenInto_61 rfl (c_af_give (by repeat first | assumption | exact up_s | refine up_e (by omega) ?_) (by repeat first | assumption | exact up_s | refine up_e (by omega) ?_) o1 ?_)
        · apply Exists.intro
          repeat first | assumption | exact up_s | refine up_e (by omega) ?_
        dsimp only [psh]
        refine A.aload_k 0 rfl rfl rfl d_af_widenInto_64 ?_
        refine A.dup rfl d_af_widenInto_65 ?_
        apply A.getfield f_af_67 d_af_widenInto_66
        · repeat first | assumption | exact up_s | refine up_e (by omega) ?_
        · rfl
        refine A.iload rfl d_af_widenInto_69 ?_
        refine A.aload_k 0 rfl rfl rfl d_af_widenInto_71 ?_
        apply A.getfield f_af_61 d_af_widenInto_72
        · repeat first | assumption | exact up_s | refine up_e (by omega) ?_
        · rfl
        refine A.imul d_af_widenInto_75 ?_
        refine A.iadd d_af_widenInto_76 ?_
        apply A.putfield p_af_67 d_af_widenInto_77
        · repeat first | assumption | exact up_s | refine up_e (by omega) ?_
        · exact (Nat.le_of_ble_eq_true rfl)
        · rfl
        dsimp only [List.set]
        refine A.iload_k 3 rfl rfl d_af_widenInto_80 ?_
        refine A.if_eq0 92 (by decide) d_af_widenInto_81 ?_
        refine A.aload_k 1 rfl rfl rfl d_af_widenInto_92 ?_
        refine A.dup rfl d_af_widenInto_93 ?_
        apply A.getfield f_af_235 d_af_widenInto_94
        · repeat first | assumption | exact up_s | refine up_e (by omega) ?_
        · rfl
        refine A.iload_k 2 rfl rfl d_af_widenInto_97 ?_
        refine A.isub d_af_widenInto_98 ?_
        apply A.putfield p_af_235 d_af_widenInto_99
        · repeat first | assumption | exact up_s | refine up_e (by omega) ?_
        · exact (Nat.le_of_ble_eq_true rfl)
        · rfl
        dsimp only [List.set]
        refine A.iload rfl d_af_widenInto_102 ?_
        refine A.iret d_af_widenInto_104 rfl ?_
        first | (have e : 20 ≤ M 5 p - n := c17; rw [if_pos e, if_pos e] at h; rw [if_pos e] at fd; exact h _ fd (((FrC.rf.up (by omega) (by omega)).up (by omega) (by omega)).up (by omega) (by omega))) | (have e : ¬ 20 ≤ M 5 p - n := c17; rw [if_neg e, if_neg e] at h; rw [if_neg e] at fl; exact h _ fl ((((FrC.rf.up (by omega) (by omega)).up (by omega) (by omega)).up (by omega) (by omega)).up (by omega) (by omega)))
      · refine A.iconst (v := 1) rfl d_af_widenInto_20 ?_
        refine A.goto 25 (by decide) d_af_widenInto_21 ?_
        refine A.istore_k 3 rfl (Nat.le_of_ble_eq_true rfl) rfl d_af_widenInto_25 ?_
        dsimp only [List.set]
        refine A.aload_k 1 rfl rfl rfl d_af_widenInto_26 ?_
        apply A.getfield f_af_232 d_af_widenInto_27
        · repeat first | assumption | exact up_s | refine up_e (by omega) ?_
        · rfl
        refine A.iload_k 3 rfl rfl d_af_widenInto_30 ?_
        refine A.if_eq1 d_af_widenInto_31 (tgt := 41) (by decide) ?_
        refine A.aload_k 1 rfl rfl rfl d_af_widenInto_34 ?_
        apply A.getfield f_af_235 d_af_widenInto_35
        · repeat first | assumption | exact up_s | refine up_e (by omega) ?_
        · rfl
        refine A.goto 42 (by decide) d_af_widenInto_38 ?_
        refine A.imul d_af_widenInto_42 ?_
        refine A.istore (Nat.le_of_ble_eq_true rfl) rfl d_af_widenInto_43 ?_
        dsimp only [List.set]
        refine A.aload_k 0 rfl rfl rfl d_af_widenInto_45 ?_
        refine A.aload_k 1 rfl rfl rfl d_af_widenInto_46 ?_
        apply A.getfield f_af_113 d_af_widenInto_47
        · repeat first | assumption | exact up_s | refine up_e (by omega) ?_
        · rfl
        refine A.iconst (v := 0) rfl d_af_widenInto_50 ?_
        refine A.callV1 s_af_152 ?_ (Nat.le_of_ble_eq_true rfl) (Nat.le_of_ble_eq_true rfl) (Nat.le_of_ble_eq_true rfl) d_af_widenInto_51 rfl (c_ch_personAt (by repeat first | assumption | exact up_s | refine up_e (by omega) ?_) (by repeat first | assumption | exact up_s | refine up_e (by omega) ?_) (by omega) (fun j r1 r2 => ?_) (fun r3 => absurd rfl (r3 0 (by omega))))
        · apply Exists.intro
          repeat first | assumption | exact up_s | refine up_e (by omega) ?_
        dsimp only [psh]
        obtain rfl : 0 = j := nI_inj (by omega) (by omega) r2
        rw [(a5 0 r1).1, show M 8 (4 * p + 0) = nI o from o2]
        refine A.iload rfl d_af_widenInto_54 ?_
        refine A.aload_k 0 rfl rfl rfl d_af_widenInto_56 ?_
        apply A.getfield f_af_61 d_af_widenInto_57
        · repeat first | assumption | exact up_s | refine up_e (by omega) ?_
        · rfl
        refine A.imul d_af_widenInto_60 ?_
        refine A.callV2 s_af_81 ?_ (Nat.le_of_ble_eq_true rfl) (Nat.le_of_ble_eq_true rfl) (Nat.le_of_ble_eq_true rfl) d_af_widenInto_61 rfl (c_af_give (by repeat first | assumption | exact up_s | refine up_e (by omega) ?_) (by repeat first | assumption | exact up_s | refine up_e (by omega) ?_) o1 ?_)
        · apply Exists.intro
          repeat first | assumption | exact up_s | refine up_e (by omega) ?_
        dsimp only [psh]
        refine A.aload_k 0 rfl rfl rfl d_af_widenInto_64 ?_
        refine A.dup rfl d_af_widenInto_65 ?_
        apply A.getfield f_af_67 d_af_widenInto_66
        · repeat first | assumption | exact up_s | refine up_e (by omega) ?_
        · rfl
        refine A.iload rfl d_af_widenInto_69 ?_
        refine A.aload_k 0 rfl rfl rfl d_af_widenInto_71 ?_
        apply A.getfield f_af_61 d_af_widenInto_72
        · repeat first | assumption | exact up_s | refine up_e (by omega) ?_
        · rfl
        refine A.imul d_af_widenInto_75 ?_
        refine A.iadd d_af_widenInto_76 ?_
        apply A.putfield p_af_67 d_af_widenInto_77
        · repeat first | assumption | exact up_s | refine up_e (by omega) ?_
        · exact (Nat.le_of_ble_eq_true rfl)
        · rfl
        dsimp only [List.set]
        refine A.iload_k 3 rfl rfl d_af_widenInto_80 ?_
        refine A.if_eq1 d_af_widenInto_81 (tgt := 92) (by decide) ?_
        refine A.aload_k 1 rfl rfl rfl d_af_widenInto_84 ?_
        refine A.iconst (v := 3) rfl d_af_widenInto_85 ?_
        refine A.callV1 s_af_285 ?_ (Nat.le_of_ble_eq_true rfl) (Nat.le_of_ble_eq_true rfl) (Nat.le_of_ble_eq_true rfl) d_af_widenInto_86 rfl (c_pl_lose (by repeat first | assumption | exact up_s | refine up_e (by omega) ?_) (by repeat first | assumption | exact up_s | refine up_e (by omega) ?_) ?_)
        · apply Exists.intro
          repeat first | assumption | exact up_s | refine up_e (by omega) ?_
        dsimp only [psh]
        refine A.goto 102 (by decide) d_af_widenInto_89 ?_
        refine A.iload rfl d_af_widenInto_102 ?_
        refine A.iret d_af_widenInto_104 rfl ?_
        first | (have e : 20 ≤ M 5 p - n := c17; rw [if_pos e, if_pos e] at h; rw [if_pos e] at fd; exact h _ fd (((FrC.rf.up (by omega) (by omega)).up (by omega) (by omega)).up (by omega) (by omega))) | (have e : ¬ 20 ≤ M 5 p - n := c17; rw [if_neg e, if_neg e] at h; rw [if_neg e] at fl; exact h _ fl ((((FrC.rf.up (by omega) (by omega)).up (by omega) (by omega)).up (by omega) (by omega)).up (by omega) (by omega)))
    · exact absurd c c4
  · rw [if_neg c, if_neg c] at h
    refine A.aload_k 1 rfl rfl rfl d_af_widenInto_0 ?_
    apply A.getfield f_af_110 d_af_widenInto_1
    · repeat first | assumption | exact up_s | refine up_e (by first | decide | omega) ?_
    · rfl
    refine A.if_eq 9 (by decide) d_af_widenInto_4 (fun c4 => ?_) (fun c4 => ?_)
    · exact absurd c4 c
    refine A.iconst (v := 0) rfl d_af_widenInto_7 ?_
    refine A.iret d_af_widenInto_8 rfl ?_
    exact h G hC FrC.rf
def actL (s n : Int32) : List Nat → MS → MS
  | [], M => M
  | p :: L, M => actL s n L (actS M s n p)
def actLF (s n : Int32) : List Nat → MS → Int32
  | [], _ => 0
  | p :: L, M => actG M s n p + actLF s n L (actS M s n p)
theorem actL_snoc {s n : Int32} {q : Nat} : ∀ (L : List Nat) (M : MS), actL s n (L ++ [q]) M = actS (actL s n L M) s n q ∧ actLF s n (L ++ [q]) M = actLF s n L M + actG (actL s n L M) s n q
  | [], M => ⟨rfl, by show actG M s n q + 0 = 0 + actG M s n q; rw [Int32.add_zero, Int32.zero_add]⟩
  | p :: L, M => by
    obtain ⟨h1, h2⟩ := actL_snoc L (actS M s n p)
    refine ⟨h1, ?_⟩
    show actG M s n p + actLF s n (L ++ [q]) (actS M s n p) = actG M s n p + actLF s n L (actS M s n p) + _
    rw [h2, Int32.add_assoc]
    rfl
theorem actS_3 {s n : Int32} {p : Nat} : actS M s n p 3 = M 3 := by
  unfold actS
  split
  · split
    · split
      · rfl
      · rfl
    · rfl
  · rfl
theorem actM_3 {s n : Int32} : ∀ k, actM M s n k 3 = M 3
  | 0 => rfl
  | k + 1 => actS_3.trans (actM_3 k)
theorem actM_L {s n : Int32} : ∀ k, actM M s n k = actL s n (strL M s k) M ∧ actF M s n k = actLF s n (strL M s k) M
  | 0 => ⟨rfl, rfl⟩
  | k + 1 => by
    obtain ⟨h1, h2⟩ := actM_L k
    have e : actM M s n k 3 k = M 3 k := by rw [actM_3]
    rw [strL_s]
    unfold actM actF
    by_cases c : M 3 k = s
    · rw [if_pos c, (actL_snoc _ _).1, (actL_snoc _ _).2, ← h1, ← h2]
      exact ⟨rfl, rfl⟩
    · rw [if_neg c, ← h1, ← h2]
      unfold actS actG
      rw [e, if_neg c, if_neg c, Int32.add_zero]
      exact ⟨rfl, rfl⟩
theorem c_af_act {x n : Int32} (hC : CH G M np) (hw : WF M np) (hws : WS M np) (h0 : ¬ ((∃ q, q < 6 ∧ x = nI q) ∧ 1 ≤ n ∧ n ≤ 40) → Q (some (.int (-1))) G) (h1 : ∀ q, q < 6 → x = nI q → 1 ≤ n → n ≤ 40 → ∀ G', CH G' (actM M x n np) np → FrC G G' → Q (some (.int (actF M x n np))) G') : A 4 M_af_act 0 [some (.ref 20), some (.int x), some (.int n), none, none, none] [] G kc ks Q := by
  have hr := hC.root.1
  have loop : ∀ q, q < 6 → (∀ G', CH G' (actM M (nI q) n np) np → FrC G G' → Q (some (.int (actF M (nI q) n np))) G') → ∀ (R D : List Nat) (M1 : MS) (G1 : AHp) (a : Int32), strL M (nI q) np = D ++ R → CH G1 M1 np → WF M1 np → FrC G G1 → M1 3 = M 3 → actL (nI q) n R M1 = actM M (nI q) n np → a + actLF (nI q) n R M1 = actF M (nI q) n np → A 4 M_af_act 28 [some (.ref 20), some (.int (nI q)), some (.int n), some (.ref (40 + q)), some (.int a), some (.int (nI D.length))] [] G1 kc ks Q := by
    intro q hq h1 R
    induction R with
    | nil =>
      intro D M1 G1 a e hC1 hw1 hF e3 e4 e5
      have hlen := hws.2.2 q hq
      rw [e, List.append_nil] at hlen
      obtain ⟨s1, s2, ⟨m, s3⟩, s4, s5⟩ := hC1.str.2 q hq
      rw [strL_congr e3, e, List.append_nil] at s3
      rw [← show M1 = actM M (nI q) n np from e4, ← e5] at h1
      refine A.iload rfl d_af_act_28 ?_
      refine A.aload_k 3 rfl rfl rfl d_af_act_30 ?_
      apply A.getfield f_af_176 d_af_act_31
      · repeat first | assumption | exact up_s | refine up_e (by first | decide | omega) ?_
      · rfl
      refine A.callV0 s_af_89 ?_ (Nat.le_of_ble_eq_true rfl) (Nat.le_of_ble_eq_true rfl) (Nat.le_of_ble_eq_true rfl) d_af_act_34 rfl (c_al_size (by repeat first | assumption | exact up_s | refine up_e (by first | decide | omega) ?_) ?_)
      · apply Exists.intro
        repeat first | assumption | exact up_s | refine up_e (by first | decide | omega) ?_
      dsimp only [psh]
      refine A.icmp_ge 68 (by decide) d_af_act_37 (fun c37 => ?_) (fun c37 => ?_)
      · refine A.iload rfl d_af_act_68 ?_
        refine A.iret d_af_act_70 rfl ?_
        have e6 : a + actLF (nI q) n [] M1 = a := Int32.add_zero a
        rw [e6] at h1
        exact h1 _ hC1 hF
      · exact absurd (nI_le (Nat.le_refl _) (by omega)) c37
    | cons p R ih =>
      intro D M1 G1 a e hC1 hw1 hF e3 e4 e5
      have hlen := hws.2.2 q hq
      rw [e, List.length_append, List.length_cons] at hlen
      have hlt : D.length < (D ++ p :: R).length := by rw [List.length_append, List.length_cons]; omega
      have hlen2 : (D ++ p :: R).length ≤ 8 := by rw [List.length_append, List.length_cons]; exact hlen
      obtain ⟨s1, s2, ⟨m, s3⟩, s4, s5⟩ := hC1.str.2 q hq
      rw [strL_congr e3, e] at s3 s4
      rw [if_neg (by omega)] at s3
      obtain ⟨f, f1, f2⟩ := s4 (by omega)
      have hf := f2 D.length hlt
      have eget : (D ++ p :: R).getD D.length 0 = p := by
        rw [List.getD_eq_getElem?_getD, List.getElem?_append_right (Nat.le_refl _), Nat.sub_self]
        rfl
      rw [eget] at hf
      obtain ⟨hp, hp3⟩ := strL_lt M (nI q) np p (by rw [e]; exact List.mem_append_right _ (List.mem_cons_self ..))
      have hpl := (hC1.pl hp).1
      have hr1 := hC1.root.1
      have ih := ih (D ++ [p])
      rw [List.length_append] at ih
      have e3p : M1 3 p = nI q := by rw [e3]; exact hp3
      refine A.iload rfl d_af_act_28 ?_
      refine A.aload_k 3 rfl rfl rfl d_af_act_30 ?_
      apply A.getfield f_af_176 d_af_act_31
      · repeat first | assumption | exact up_s | refine up_e (by first | decide | omega) ?_
      · rfl
      refine A.callV0 s_af_89 ?_ (Nat.le_of_ble_eq_true rfl) (Nat.le_of_ble_eq_true rfl) (Nat.le_of_ble_eq_true rfl) d_af_act_34 rfl (c_al_size (by repeat first | assumption | exact up_s | refine up_e (by first | decide | omega) ?_) ?_)
      · apply Exists.intro
        repeat first | assumption | exact up_s | refine up_e (by first | decide | omega) ?_
      dsimp only [psh]
      refine A.icmp_ge 68 (by decide) d_af_act_37 (fun c37 => ?_) (fun c37 => ?_)
      · exact absurd ((nI_leI (by omega) (by omega)).mp c37) (by omega)
      refine A.iload rfl d_af_act_40 ?_
      refine A.aload_k 0 rfl rfl rfl d_af_act_42 ?_
      refine A.aload_k 3 rfl rfl rfl d_af_act_43 ?_
      apply A.getfield f_af_176 d_af_act_44
      · repeat first | assumption | exact up_s | refine up_e (by first | decide | omega) ?_
      · rfl
      refine A.iload rfl d_af_act_47 ?_
      refine A.callV1 s_af_179 ?_ (Nat.le_of_ble_eq_true rfl) (Nat.le_of_ble_eq_true rfl) (Nat.le_of_ble_eq_true rfl) d_af_act_49 rfl (c_al_get s3 f1 hlt (by omega) hf ?_)
      · apply Exists.intro
        repeat first | assumption | exact up_s | refine up_e (by first | decide | omega) ?_
      dsimp only [psh]
      refine A.cast1 (ci := 5) d_af_act_52 cl_af_93 rfl ?_ ?_
      · apply Exists.intro
        repeat first | assumption | exact up_s | refine up_e (by first | decide | omega) ?_
      refine A.iload_k 2 rfl rfl d_af_act_55 ?_
      refine A.callV2 s_af_183 ?_ (Nat.le_of_ble_eq_true rfl) (Nat.le_of_ble_eq_true rfl) (Nat.le_of_ble_eq_true rfl) d_af_act_56 rfl (c_af_widen hC1 hw1 hp (fun G2 hC2 hF2 => ?_))
      · apply Exists.intro
        repeat first | assumption | exact up_s | refine up_e (by first | decide | omega) ?_
      dsimp only [psh]
      refine A.iadd d_af_act_59 ?_
      refine A.istore (Nat.le_of_ble_eq_true rfl) rfl d_af_act_60 ?_
      dsimp only [List.set]
      refine A.iincp (n := 5) rfl (Nat.le_of_ble_eq_true rfl) d_af_act_62 ?_
      dsimp only [List.set]
      refine A.goto 28 (by decide) d_af_act_65 ?_
      rw [nI_1]
      rw [e3p] at hC2 ⊢
      exact ih _ G2 _ (by rw [e, List.append_assoc]; rfl) hC2 hw1.actS (hF.tr hF2) (actS_3.trans e3) e4 (by rw [Int32.add_assoc]; exact e5)
  refine A.aload_k 0 rfl rfl rfl d_af_act_0 ?_
  refine A.iload_k 1 rfl rfl d_af_act_1 ?_
  refine A.callV1 s_af_85 ?_ (Nat.le_of_ble_eq_true rfl) (Nat.le_of_ble_eq_true rfl) (Nat.le_of_ble_eq_true rfl) d_af_act_2 rfl (c_af_streetAt hC (fun s hs hx => ?_) (fun q0 => ?_))
  · apply Exists.intro
    repeat first | assumption | exact up_s | refine up_e (by first | decide | omega) ?_
  · dsimp only [psh]
    refine A.astore_k 3 rfl (Nat.le_of_ble_eq_true rfl) rfl rfl d_af_act_5 ?_
    dsimp only [List.set]
    refine A.aload_k 3 rfl rfl rfl d_af_act_6 ?_
    refine A.ifnull_r d_af_act_7 ?_
    refine A.iload_k 2 rfl rfl d_af_act_10 ?_
    refine A.iconst (v := 1) rfl d_af_act_11 ?_
    refine A.bipush (v := 40) rfl d_af_act_12 ?_
    refine A.callS3 s_af_76 (Nat.le_of_ble_eq_true rfl) (Nat.le_of_ble_eq_true rfl) (Nat.le_of_ble_eq_true rfl) d_af_act_14 rfl (c_af_within (fun i1 i2 => ?_) (fun i3 => ?_))
    · dsimp only [psh]
      refine A.if_ne1 22 (by decide) d_af_act_17 ?_
      refine A.iconst (v := 0) rfl d_af_act_22 ?_
      refine A.istore (Nat.le_of_ble_eq_true rfl) rfl d_af_act_23 ?_
      dsimp only [List.set]
      refine A.iconst (v := 0) rfl d_af_act_25 ?_
      refine A.istore (Nat.le_of_ble_eq_true rfl) rfl d_af_act_26 ?_
      dsimp only [List.set]
      subst hx
      have e := actM_L (M := M) (s := nI s) (n := n) np
      exact loop s hs (h1 s hs rfl i1 i2) (strL M (nI s) np) [] M G 0 rfl hC hw FrC.rf rfl e.1.symm (by rw [Int32.zero_add]; exact e.2.symm)
    · dsimp only [psh]
      refine A.if_ne0 d_af_act_17 (tgt := 22) (by decide) ?_
      refine A.iconst (v := -1) rfl d_af_act_20 ?_
      refine A.iret d_af_act_21 rfl ?_
      first | exact h0 (fun z => z.1.elim (fun q hq => q0 q hq.1 hq.2)) | exact h0 (fun z => i3 z.2)
  · dsimp only [psh]
    refine A.astore_k 3 rfl (Nat.le_of_ble_eq_true rfl) rfl rfl d_af_act_5 ?_
    dsimp only [List.set]
    refine A.aload_k 3 rfl rfl rfl d_af_act_6 ?_
    refine A.ifnull_0 20 (by decide) d_af_act_7 ?_
    refine A.iconst (v := -1) rfl d_af_act_20 ?_
    refine A.iret d_af_act_21 rfl ?_
    first | exact h0 (fun z => z.1.elim (fun q hq => q0 q hq.1 hq.2)) | exact h0 (fun z => i3 z.2)
end ACT
