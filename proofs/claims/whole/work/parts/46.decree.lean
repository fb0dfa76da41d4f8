/-! the component: decree -/
section DECREE
variable {M S : MS} {G : AHp} {kc ks np : Nat} {Q : Option Value → AHp → Prop}
theorem c_af_pay {p l b o : Nat} (hC : CH G M np) (hI : INV M np) (hp : p < np) (g : ¬ (M 6 p = 2 ∨ M 6 p = 3)) (h7 : M 7 p = nI l) (hl : l ≤ 3) (hb : b ≤ l) (ho : o < 20) (h8 : M 8 (4 * p + b) = nI o) (h : ∀ P, (∀ k, k ≤ l → ∀ P0 C0, P k = parP M p l (nI b) P0 C0 k) → ∀ G', CH G' (va_up M 1 (payC M p b o P (upd (M 1) o (M 1 o - cstM M p)) (l + 1))) np → FrC G G' → Q none G') : A 5 M_af_payForBuilding 0 [some (.ref 20), some (.ref (1000 + 16 * p)), some (.int (nI b)), none, none, none] [] G kc ks Q := by
  have hw := hI.1
  have hr := hC.root.1
  have h21 := hC.root.2
  have hsh := hC.sh.1
  have hpl := (hC.pl hp).1
  obtain ⟨Pp, Y, R, a1, a2, a3, a4, a5⟩ := (hC.pl hp).2.1
  have hz := zM_of g h7 hl
  rw [hz] at a1 a5
  have loop : ∀ (P : Nat → Int32) (C' : Nat → Int64), (∀ k, k ≤ l → ∀ P0 C0, P k = parP M p l (nI b) P0 C0 k) → ∀ (n i : Nat), i ≤ l + 1 → l + 1 < i + n → A 5 M_af_payForBuilding 37 [some (.ref 20), some (.ref (1000 + 16 * p)), some (.int (nI b)), some (.int (cstM M p)), some (.int (nI o)), some (.int (nI i))] [] (up (up (up G 28 (aI 4 P)) 29 (aL 4 C')) 21 (aI 20 (payC M p b o P (upd (M 1) o (M 1 o - cstM M p)) i))) kc ks Q := by
    intro P C' hP n
    induction n with
    | zero => intro i y1 y2; omega
    | succ n ih =>
      intro i y1 y2
      obtain ⟨q, q1, q2⟩ := hw.2.2.2.1 (4 * p + i)
      have ih := ih (i + 1)
      rw [payC_s] at ih
      refine A.iload rfl d_af_payForBuilding_37 ?_
      refine A.aload_k 1 rfl rfl rfl d_af_payForBuilding_39 ?_
      apply A.getfield f_af_113 d_af_payForBuilding_40
      · repeat first | assumption | exact up_s | refine up_e (by first | decide | omega) ?_
      · rfl
      apply A.getfield f_af_262 d_af_payForBuilding_43
      · repeat first | assumption | exact up_s | refine up_e (by first | decide | omega) ?_
      · rfl
      refine A.icmp_ge 85 (by decide) d_af_payForBuilding_46 (fun c46 => ?_) (fun c46 => ?_)
      · refine A.vret d_af_payForBuilding_85 rfl ?_
        have e : i = l + 1 := by
          have := (nI_leI (by omega) (by omega)).mp c46
          omega
        subst e
        exact h P hP _ ((hC.shr hw P C').purse hw _) (((FrC.rf.up (by decide) (by decide)).up (by decide) (by decide)).up (by decide) (by decide))
      · have hlt : i ≤ l := by
          have : ¬ l + 1 ≤ i := fun z => c46 (nI_le z (by omega))
          omega
        refine A.iload rfl d_af_payForBuilding_49 ?_
        refine A.iload_k 2 rfl rfl d_af_payForBuilding_51 ?_
        refine A.icmp_eq 79 (by decide) d_af_payForBuilding_52 (fun c52 => ?_) (fun c52 => ?_)
        · refine A.iincp (n := 5) rfl (Nat.le_of_ble_eq_true rfl) d_af_payForBuilding_79 ?_
          dsimp only [List.set]
          refine A.goto 37 (by decide) d_af_payForBuilding_82 ?_
          rw [nI_1]
          first | (rw [if_pos c52] at ih; exact ih (by omega) (by omega)) | (rw [if_neg c52, q2, hN_nI (by omega)] at ih; rw [up_up]; exact ih (by omega) (by omega))
        · refine A.aload_k 0 rfl rfl rfl d_af_payForBuilding_55 ?_
          refine A.aload_k 1 rfl rfl rfl d_af_payForBuilding_56 ?_
          apply A.getfield f_af_113 d_af_payForBuilding_57
          · repeat first | assumption | exact up_s | refine up_e (by first | decide | omega) ?_
          · rfl
          refine A.iload rfl d_af_payForBuilding_60 ?_
          refine A.callV1 s_af_152 ?_ (Nat.le_of_ble_eq_true rfl) (Nat.le_of_ble_eq_true rfl) (Nat.le_of_ble_eq_true rfl) d_af_payForBuilding_62 rfl (c_ch_personAt (by repeat first | assumption | exact up_s | refine up_e (by first | decide | omega) ?_) (by repeat first | assumption | exact up_s | refine up_e (by first | decide | omega) ?_) (by omega) (fun j r1 r2 => ?_) (fun r3 => absurd rfl (r3 i (by omega))))
          · apply Exists.intro
            repeat first | assumption | exact up_s | refine up_e (by first | decide | omega) ?_
          dsimp only [psh]
          obtain rfl : i = j := nI_inj (by omega) (by omega) r2
          rw [(a5 i r1).1, q2]
          refine A.iload rfl d_af_payForBuilding_65 ?_
          refine A.aload_k 0 rfl rfl rfl d_af_payForBuilding_67 ?_
          apply A.getfield f_af_29 d_af_payForBuilding_68
          · repeat first | assumption | exact up_s | refine up_e (by first | decide | omega) ?_
          · rfl
          refine A.iload rfl d_af_payForBuilding_71 ?_
          refine A.callV1 s_af_148 ?_ (Nat.le_of_ble_eq_true rfl) (Nat.le_of_ble_eq_true rfl) (Nat.le_of_ble_eq_true rfl) d_af_payForBuilding_73 rfl (c_sh_partOf (by repeat first | assumption | exact up_s | refine up_e (by first | decide | omega) ?_) (by repeat first | assumption | exact up_s | refine up_e (by first | decide | omega) ?_) (by omega) ?_)
          · apply Exists.intro
            repeat first | assumption | exact up_s | refine up_e (by first | decide | omega) ?_
          dsimp only [psh]
          refine A.callV3 s_af_264 ?_ (Nat.le_of_ble_eq_true rfl) (Nat.le_of_ble_eq_true rfl) (Nat.le_of_ble_eq_true rfl) d_af_payForBuilding_76 rfl (c_af_move (by repeat first | assumption | exact up_s | refine up_e (by first | decide | omega) ?_) up_s q1 ho ?_)
          · apply Exists.intro
            repeat first | assumption | exact up_s | refine up_e (by first | decide | omega) ?_
          dsimp only [psh]
          refine A.iincp (n := 5) rfl (Nat.le_of_ble_eq_true rfl) d_af_payForBuilding_79 ?_
          dsimp only [List.set]
          refine A.goto 37 (by decide) d_af_payForBuilding_82 ?_
          rw [nI_1]
          first | (rw [if_pos c52] at ih; exact ih (by omega) (by omega)) | (rw [if_neg c52, q2, hN_nI (by omega)] at ih; rw [up_up]; exact ih (by omega) (by omega))
  refine A.aload_k 0 rfl rfl rfl d_af_payForBuilding_0 ?_
  refine A.aload_k 1 rfl rfl rfl d_af_payForBuilding_1 ?_
  refine A.callV1 s_af_141 ?_ (Nat.le_of_ble_eq_true rfl) (Nat.le_of_ble_eq_true rfl) (Nat.le_of_ble_eq_true rfl) d_af_payForBuilding_2 rfl (c_af_costOf (by repeat first | assumption | exact up_s | refine up_e (by first | decide | omega) ?_) (by repeat first | assumption | exact up_s | refine up_e (by first | decide | omega) ?_) ?_)
  · apply Exists.intro
    repeat first | assumption | exact up_s | refine up_e (by first | decide | omega) ?_
  dsimp only [psh]
  refine A.istore_k 3 rfl (Nat.le_of_ble_eq_true rfl) rfl d_af_payForBuilding_5 ?_
  dsimp only [List.set]
  refine A.aload_k 1 rfl rfl rfl d_af_payForBuilding_6 ?_
  apply A.getfield f_af_113 d_af_payForBuilding_7
  · repeat first | assumption | exact up_s | refine up_e (by first | decide | omega) ?_
  · rfl
  refine A.iload_k 2 rfl rfl d_af_payForBuilding_10 ?_
  refine A.callV1 s_af_152 ?_ (Nat.le_of_ble_eq_true rfl) (Nat.le_of_ble_eq_true rfl) (Nat.le_of_ble_eq_true rfl) d_af_payForBuilding_11 rfl (c_ch_personAt a1 a2 (by omega) (fun j r1 r2 => ?_) (fun r3 => absurd rfl (r3 b (by omega))))
  · apply Exists.intro
    repeat first | assumption | exact up_s | refine up_e (by first | decide | omega) ?_
  dsimp only [psh]
  obtain rfl : b = j := nI_inj (by omega) (by omega) r2
  rw [(a5 b r1).1, h8]
  refine A.istore (Nat.le_of_ble_eq_true rfl) rfl d_af_payForBuilding_14 ?_
  dsimp only [List.set]
  refine A.aload_k 0 rfl rfl rfl d_af_payForBuilding_16 ?_
  apply A.getfield f_af_29 d_af_payForBuilding_17
  · repeat first | assumption | exact up_s | refine up_e (by first | decide | omega) ?_
  · rfl
  refine A.aload_k 1 rfl rfl rfl d_af_payForBuilding_20 ?_
  refine A.iload_k 3 rfl rfl d_af_payForBuilding_21 ?_
  refine A.iload_k 2 rfl rfl d_af_payForBuilding_22 ?_
  refine A.callV3 s_af_144 ?_ (Nat.le_of_ble_eq_true rfl) (Nat.le_of_ble_eq_true rfl) (Nat.le_of_ble_eq_true rfl) d_af_payForBuilding_23 rfl (c_divide hC hI hp g h7 hl hb (fun P C' e => ?_))
  · apply Exists.intro
    repeat first | assumption | exact up_s | refine up_e (by first | decide | omega) ?_
  dsimp only [psh]
  refine A.aload_k 0 rfl rfl rfl d_af_payForBuilding_26 ?_
  refine A.iload rfl d_af_payForBuilding_27 ?_
  refine A.iload_k 3 rfl rfl d_af_payForBuilding_29 ?_
  refine A.ineg d_af_payForBuilding_30 ?_
  refine A.callV2 s_af_81 ?_ (Nat.le_of_ble_eq_true rfl) (Nat.le_of_ble_eq_true rfl) (Nat.le_of_ble_eq_true rfl) d_af_payForBuilding_31 rfl (c_af_give (by repeat first | assumption | exact up_s | refine up_e (by first | decide | omega) ?_) (by repeat first | assumption | exact up_s | refine up_e (by first | decide | omega) ?_) ho ?_)
  · apply Exists.intro
    repeat first | assumption | exact up_s | refine up_e (by first | decide | omega) ?_
  dsimp only [psh]
  rw [← Int32.sub_eq_add_neg]
  refine A.iconst (v := 0) rfl d_af_payForBuilding_34 ?_
  refine A.istore (Nat.le_of_ble_eq_true rfl) rfl d_af_payForBuilding_35 ?_
  dsimp only [List.set]
  exact loop P C' e (l + 2) 0 (by omega) (by omega)
theorem prlY_at (Y : Nat → Int32) : ∀ b k, prlY Y b k = if 1 ≤ k ∧ k ≤ b then (if Y k < 40 then 40 else Y k) else Y k
  | 0, k => by rw [if_neg (by omega)]; rfl
  | b + 1, k => by
    unfold prlY
    by_cases e : k = b + 1
    · subst e
      rw [upd_eq, prlY_at Y b (b + 1), if_neg (show ¬ (1 ≤ b + 1 ∧ b + 1 ≤ b) by omega), if_pos (show 1 ≤ b + 1 ∧ b + 1 ≤ b + 1 by omega)]
    · rw [upd_ne e, prlY_at Y b k]
      by_cases c : 1 ≤ k ∧ k ≤ b
      · rw [if_pos c, if_pos (show 1 ≤ k ∧ k ≤ b + 1 by omega)]
      · rw [if_neg c, if_neg (show ¬ (1 ≤ k ∧ k ≤ b + 1) by omega)]
/-- the reference's years, from the builder up -/
theorem yrD_at {Y : Nat → Int32} {p b : Nat} (hb : b ≤ 3) (hy : ∀ k, 1 ≤ k → k ≤ b → Y (4 * p + k) ≤ Y (4 * p + (k - 1))) : ∀ j, j ≤ b → (∀ q, (q ≤ 4 * p + (b - j) ∨ 4 * p + b < q) → yrD Y p b j q = Y q) ∧ ∀ k, b - j < k → k ≤ b → yrD Y p b j (4 * p + k) = if Y (4 * p + k) < 40 then 40 else Y (4 * p + k)
  | 0, _ => ⟨fun _ _ => rfl, fun k h1 h2 => by omega⟩
  | j + 1, hj => by
    obtain ⟨i1, i2⟩ := yrD_at hb hy j (by omega)
    have e1 : yrD Y p b j (4 * p + (b - j)) = Y (4 * p + (b - j)) := i1 _ (by omega)
    have e2 : lstY (yrD Y p b j) p b (b - j) = if j = 0 then 40 else (if Y (4 * p + (b - j) + 1) < 40 then 40 else Y (4 * p + (b - j) + 1)) := by
      unfold lstY
      by_cases c : j = 0
      · subst c; rw [if_pos (show nI (b - 0) = nI b from rfl), if_pos rfl]
      · rw [if_neg c, if_neg (fun z => c (by have := nI_inj (by omega) (by omega) z; omega)), Nat.add_assoc]
        exact i2 _ (by omega) (by omega)
    have e3 : yrD Y p b (j + 1) (4 * p + (b - j)) = if Y (4 * p + (b - j)) < 40 then 40 else Y (4 * p + (b - j)) := by
      rw [yrD_s, e1, e2]
      by_cases c : j = 0
      · subst c
        rw [if_pos rfl]
        by_cases d : Y (4 * p + (b - 0)) < 40
        · rw [if_neg (Int32.not_le.mpr d), upd_eq, if_pos d]
        · rw [if_pos (Int32.not_lt.mp d), if_neg d]; exact e1
      · rw [if_neg c]
        have hy := hy (b - j + 1) (by omega) (by omega)
        rw [Nat.add_sub_cancel, ← Nat.add_assoc] at hy
        by_cases d : Y (4 * p + (b - j)) < 40
        · rw [if_pos (Int32.lt_of_le_of_lt hy d), if_neg (Int32.not_le.mpr d), upd_eq, if_pos d]
        · rw [if_neg d, if_pos]
          · exact e1
          · split
            · exact Int32.not_lt.mp d
            · exact hy
    have e4 : ∀ q, q ≠ 4 * p + (b - j) → yrD Y p b (j + 1) q = yrD Y p b j q := fun q hq => by
      rw [yrD_s]
      split
      · rfl
      · exact upd_ne hq
    refine ⟨fun q hq => ?_, fun k h1 h2 => ?_⟩
    · rw [e4 q (by omega)]; exact i1 q (by omega)
    · by_cases c : k = b - j
      · subst c; exact e3
      · rw [e4 _ (by omega)]; exact i2 k (by omega) h2
theorem payC_congr {p b o : Nat} {P P' c : Nat → Int32} : ∀ n, (∀ k, k < n → P k = P' k) → payC M p b o P c n = payC M p b o P' c n
  | 0, _ => rfl
  | n + 1, h => by rw [payC_s, payC_s, payC_congr n (fun k hk => h k (by omega)), h n (by omega)]
theorem mDec_congr {p l b o : Nat} {P P' : Nat → Int32} (h : ∀ k, k ≤ l → P k = P' k) : mDec M np p l b o P = mDec M np p l b o P' := by
  unfold mDec mDec1
  rw [payC_congr (l + 1) (fun k hk => h k (by omega))]
/-- the plot is raised, its leases are longer -/
theorem CH.raise {p l b o : Nat} {P Y R : Nat → Int32} {co : Nat → Int32} (hC : CH G (va_up M 1 co) np) (hw : WF M np) (hp : p < np) (hB : BP M p) (h6 : M 6 p = 0) (h7 : M 7 p = nI l) (hl : l ≤ 3) (hb : b ≤ l) (a1 : G (1001 + 16 * p) = some (oB 3 [.ref (1002 + 16 * p), .ref (1003 + 16 * p), .ref (1004 + 16 * p), .int (nI (l + 1))])) (a2 : G (1002 + 16 * p) = some (aI 4 P)) (a4 : G (1004 + 16 * p) = some (aI 4 R)) (a5 : ∀ j, j < l + 1 → P j = M 8 (4 * p + j) ∧ Y j = M 9 (4 * p + j) ∧ R j = if j = 0 then 0 else M 10 (4 * p + j)) : CH (up (up G (1003 + 16 * p) (aI 4 (prlY Y b))) (1000 + 16 * p) (oB 5 [.int (M 4 p), .int (M 5 p), .int 1, .ref (1001 + 16 * p), .int (nI o), .int (M 0 0), .int (M 13 p), wV (wlA M p), wV (wlB M np p)])) (va_up (va_up (va_up (va_up (va_up M 1 co) 9 (yrD (M 9) p b b)) 6 (upd (M 6) p 1)) 11 (upd (M 11) p (nI o))) 12 (upd (M 12) p (M 0 0))) np := by
  obtain ⟨y1, y2⟩ := yrD_at (Y := M 9) (p := p) (b := b) (by omega) (fun k k1 k2 => ((hB.2.2.2.2.2.2 l k h7 hl (by omega)).2 k1).2) b (Nat.le_refl _)
  have hz : zM (va_up (va_up (va_up (va_up (va_up M 1 co) 9 (yrD (M 9) p b b)) 6 (upd (M 6) p 1)) 11 (upd (M 11) p (nI o))) 12 (upd (M 12) p (M 0 0))) p = l + 1 := zM_of (by show ¬ (upd (M 6) p 1 p = 2 ∨ upd (M 6) p 1 p = 3); rw [upd_eq]; decide) h7 hl
  refine hC.one (hw.up _ (by decide) (by decide) (by decide) (by decide) (by decide)) hp (fun a ha => (up_n (by omega)).trans (up_n (by omega))) (fun k hk => ?_) (fun q k hq => ?_) (fun q k j hq h1 h2 h3 => ?_) ⟨?_, ⟨P, prlY Y b, R, ?_, ?_, ?_, ?_, fun j hj => ?_⟩, ?_⟩
  · rw [vn (by omega), vn (by omega), vn (by omega), vn (by omega)]
  · by_cases c : k = 12
    · subst c; rw [vs, upd_ne hq]; exact Or.inl rfl
    rw [vn c]
    by_cases c : k = 11
    · subst c; rw [vs, upd_ne hq]; exact Or.inl rfl
    rw [vn c]
    by_cases c : k = 6
    · subst c; rw [vs, upd_ne hq]; exact Or.inl rfl
    rw [vn c]
    by_cases c : k = 9
    · exact Or.inr (by omega)
    rw [vn c]
    exact Or.inl rfl
  · rw [vn (by omega), vn (by omega), vn (by omega)]
    by_cases c : k = 9
    · subst c; rw [vs]; exact y1 _ (by omega)
    · rw [vn c]
  · rw [up_s]
    unfold plO
    rw [wVA (M := M) (M' := va_up (va_up (va_up (va_up (va_up M 1 co) 9 _) 6 _) 11 _) 12 _) rfl, wVB (M := M) (M' := va_up (va_up (va_up (va_up (va_up M 1 co) 9 _) 6 _) 11 _) 12 _) rfl]
    show _ = some (oB 5 [.int (M 4 p), .int (M 5 p), .int (upd (M 6) p 1 p), _, .int (upd (M 11) p (nI o) p), .int (upd (M 12) p (M 0 0) p), .int (M 13 p), _, _])
    rw [upd_eq, upd_eq, upd_eq]
  · rw [hz]; exact up_e (by omega) (up_e (by omega) a1)
  · exact up_e (by omega) (up_e (by omega) a2)
  · exact up_e (by omega) up_s
  · exact up_e (by omega) (up_e (by omega) a4)
  · rw [hz] at hj
    obtain ⟨b1, b2, b3⟩ := a5 j hj
    refine ⟨b1, ?_, b3⟩
    show prlY Y b j = yrD (M 9) p b b (4 * p + j)
    rw [prlY_at]
    by_cases c : 1 ≤ j ∧ j ≤ b
    · rw [if_pos c, y2 j (by omega) (by omega), b2]
    · rw [if_neg c, y1 _ (by omega), b2]
  · exact (hC.pl hp).2.2.fr ((up_n (by omega)).trans (up_n (by omega))) rfl rfl rfl
theorem wallI_6 (x z : Int32) (o : Nat) : wallI M x z o 6 = M 6 := by
  unfold wallI
  by_cases c : x = -1 ∨ z = -1 ∨ (M 6 (hN x) = 2 ∨ M 6 (hN x) = 3) ∨ (M 6 (hN z) = 2 ∨ M 6 (hN z) = 3)
  · rw [if_pos c]
  · rw [if_neg c]
    unfold mWall
    by_cases c2 : M 14 (hN x) = -1
    · rw [if_pos c2]; rfl
    · rw [if_neg c2]; rfl
theorem c_af_decree {x : Int32} (hC : CH G M np) (hI : INV M np)
    (h0 : ¬ (∃ p, p < np ∧ x = nI p ∧ M 6 p = 0) → Q (some (.int (-1))) G)
    (h2 : ∀ p l, p < np → x = nI p → M 6 p = 0 → M 7 p = nI l → l ≤ 3 → bldM M p (l + 1) = -1 → Q (some (.int (-1))) G)
    (h1 : ∀ p l b o, p < np → x = nI p → M 6 p = 0 → M 7 p = nI l → l ≤ 3 → b ≤ l → bldM M p (l + 1) = nI b → o < 20 → M 8 (4 * p + b) = nI o → ∀ P, (∀ k, k ≤ l → ∀ P0 C0, P k = parP M p l (nI b) P0 C0 k) → ∀ G', CH G' (mDec M np p l b o P) np → FrC G G' → Q (some (.int (nI b))) G') : A 6 M_af_decree 0 [some (.ref 20), some (.int x), none, none, none] [] G kc ks Q := by
  have hw := hI.1
  have h24 := hw.2.1
  have hr := hC.root.1
  have main : ∀ p l b, p < np → x = nI p → M 6 p = 0 → M 7 p = nI l → l ≤ 3 → b ≤ l → bldM M p (l + 1) = nI b → A 6 M_af_decree 32 [some (.ref 20), some (.int x), some (.ref (1000 + 16 * p)), some (.int (nI b)), none] [] G kc ks Q := by
    intro p l b hp hx h6 h7 hl hb eb
    have h1 := fun o => h1 p l b o hp hx h6 h7 hl hb eb
    have g : ¬ (M 6 p = 2 ∨ M 6 p = 3) := by rw [h6]; decide
    have hpl := (hC.pl hp).1
    obtain ⟨Pp, Y, R, a1, a2, a3, a4, a5⟩ := (hC.pl hp).2.1
    have hz := zM_of g h7 hl
    rw [hz] at a1 a5
    obtain ⟨o, o1, o2⟩ := hw.2.2.2.1 (4 * p + b)
    have h1 := h1 o o1 o2
    refine A.aload_k 2 rfl rfl rfl d_af_decree_32 ?_
    apply A.getfield f_af_113 d_af_decree_33
    · repeat first | assumption | exact up_s | refine up_e (by first | decide | omega) ?_
    · rfl
    refine A.iload_k 3 rfl rfl d_af_decree_36 ?_
    refine A.callV1 s_af_152 ?_ (Nat.le_of_ble_eq_true rfl) (Nat.le_of_ble_eq_true rfl) (Nat.le_of_ble_eq_true rfl) d_af_decree_37 rfl (c_ch_personAt a1 a2 (by omega) (fun j r1 r2 => ?_) (fun r3 => absurd rfl (r3 b (by omega))))
    · apply Exists.intro
      repeat first | assumption | exact up_s | refine up_e (by first | decide | omega) ?_
    dsimp only [psh]
    obtain rfl : b = j := nI_inj (by omega) (by omega) r2
    rw [(a5 b r1).1, o2]
    refine A.istore (Nat.le_of_ble_eq_true rfl) rfl d_af_decree_40 ?_
    dsimp only [List.set]
    refine A.aload_k 0 rfl rfl rfl d_af_decree_42 ?_
    refine A.aload_k 2 rfl rfl rfl d_af_decree_43 ?_
    refine A.iload_k 3 rfl rfl d_af_decree_44 ?_
    refine A.callV2 s_af_155 ?_ (Nat.le_of_ble_eq_true rfl) (Nat.le_of_ble_eq_true rfl) (Nat.le_of_ble_eq_true rfl) d_af_decree_45 rfl (c_af_pay hC hI hp g h7 hl hb o1 o2 (fun P hP G1 hC1 hF1 => ?_))
    · apply Exists.intro
      repeat first | assumption | exact up_s | refine up_e (by first | decide | omega) ?_
    dsimp only [psh]
    skip
    have h1 := h1 P hP
    clear hpl a1 a2 a3 a4 a5 Pp Y R
    have hr1 := hC1.root.1
    have hpl1 : G1 (1000 + 16 * p) = some (plO _ np p) := (hC1.pl hp).1
    obtain ⟨Pp, Y, R, a1, a2, a3, a4, a5⟩ := (hC1.pl hp).2.1
    have hz1 : zM (va_up M 1 (payC M p b o P (upd (M 1) o (M 1 o - cstM M p)) (l + 1))) p = l + 1 := hz
    rw [hz1] at a1 a5
    unfold plO at hpl1
    rw [wVA (M := M) (M' := va_up M 1 _) rfl, wVB (M := M) (M' := va_up M 1 _) rfl] at hpl1
    have hC2 := CH.raise (o := o) hC1 hw hp (hI.2.2.2.1 p hp) h6 h7 hl hb a1 a2 a4 a5
    have key : ∀ G2, CH G2 (mDec1 M p l b o P) np → FrC G G2 → A 6 M_af_decree 68 [some (.ref 20), some (.int x), some (.ref (1000 + 16 * p)), some (.int (nI b)), some (.int (nI o))] [] G2 kc ks Q := by
      intro G2 hC2 hF2
      have w2 : WF (mDec1 M p l b o P) np := ((((hw.up _ (by decide) (by decide) (by decide) (by decide) (by decide)).up _ (by decide) (by decide) (by decide) (by decide) (by decide)).up _ (by decide) (by decide) (by decide) (by decide) (by decide)).up _ (by decide) (by decide) (by decide) (by decide) (by decide)).up _ (by decide) (by decide) (by decide) (by decide) (by decide)
      have st2 : ∀ q, q < np → (mDec1 M p l b o P 6 q = 0 ∨ mDec1 M p l b o P 6 q = 1 ∨ mDec1 M p l b o P 6 q = 2 ∨ mDec1 M p l b o P 6 q = 3) := by
        intro q hq
        show upd (M 6) p 1 q = 0 ∨ upd (M 6) p 1 q = 1 ∨ upd (M 6) p 1 q = 2 ∨ upd (M 6) p 1 q = 3
        by_cases e : q = p
        · subst e; rw [upd_eq]; exact Or.inr (Or.inl rfl)
        · rw [upd_ne e]; exact (hI.2.2.2.1 q hq).2.2.2.1
      have key2 : ∀ M3 G3, CH G3 M3 np → FrC G G3 → M3 3 = M 3 → WF M3 np → (∀ q, q < np → (M3 6 q = 0 ∨ M3 6 q = 1 ∨ M3 6 q = 2 ∨ M3 6 q = 3)) → mDec M np p l b o P = wallI M3 (nI p) (nxt M np p) o → A 6 M_af_decree 78 [some (.ref 20), some (.int x), some (.ref (1000 + 16 * p)), some (.int (nI b)), some (.int (nI o))] [] G3 kc ks Q := by
        intro M3 G3 hC3 hF3 e3 w3 st3 eM
        rw [eM] at h1
        have hr3 := hC3.root.1
        have hp3 : G3 (1000 + 16 * p) = some (plO M3 np p) := (hC3.pl hp).1
        unfold plO wlB at hp3
        rw [nxt_c e3] at hp3
        by_cases c : nxt M np p = -1
        · rw [if_pos c] at hp3
          rw [show wallI M3 (nI p) (nxt M np p) o = M3 from if_pos (Or.inr (Or.inl c))] at h1
          have hp3 : G3 (1000 + 16 * p) = some (oB 5 [_, _, _, _, _, _, _, _, .null]) := hp3
          refine A.aload_k 0 rfl rfl rfl d_af_decree_78 ?_
          refine A.aload_k 2 rfl rfl rfl d_af_decree_79 ?_
          apply A.getfield f_af_173 d_af_decree_80
          · repeat first | assumption | exact up_s | refine up_e (by first | decide | omega) ?_
          · rfl
          refine A.iload rfl d_af_decree_83 ?_
          refine A.callV2 s_af_169 ?_ (Nat.le_of_ble_eq_true rfl) (Nat.le_of_ble_eq_true rfl) (Nat.le_of_ble_eq_true rfl) d_af_decree_85 rfl (c_settle0 ?_)
          · apply Exists.intro
            repeat first | assumption | exact up_s | refine up_e (by first | decide | omega) ?_
          dsimp only [psh]
          refine A.iload_k 3 rfl rfl d_af_decree_88 ?_
          refine A.iret d_af_decree_89 rfl ?_
          exact h1 _ hC3 hF3
        · rw [if_neg c] at hp3
          obtain ⟨d, d1, d2⟩ := (nxt_in (M := M) hp).resolve_left c
          rw [d2] at h1
          have hp3 : G3 (1000 + 16 * p) = some (oB 5 [_, _, _, _, _, _, _, _, .ref (1005 + 16 * p)]) := hp3
          refine A.aload_k 0 rfl rfl rfl d_af_decree_78 ?_
          refine A.aload_k 2 rfl rfl rfl d_af_decree_79 ?_
          apply A.getfield f_af_173 d_af_decree_80
          · repeat first | assumption | exact up_s | refine up_e (by first | decide | omega) ?_
          · rfl
          refine A.iload rfl d_af_decree_83 ?_
          refine A.callV2 s_af_169 ?_ (Nat.le_of_ble_eq_true rfl) (Nat.le_of_ble_eq_true rfl) (Nat.le_of_ble_eq_true rfl) d_af_decree_85 rfl (c_settle1 hC3 w3 st3 hp d1.2 d1.1 ((nxt_c e3 p).trans d2) o1 (fun G4 hC4 hF4 => ?_))
          · apply Exists.intro
            repeat first | assumption | exact up_s | refine up_e (by first | decide | omega) ?_
          dsimp only [psh]
          refine A.iload_k 3 rfl rfl d_af_decree_88 ?_
          refine A.iret d_af_decree_89 rfl ?_
          exact h1 _ hC4 (hF3.tr hF4)
      have hr2 := hC2.root.1
      have hp2 : G2 (1000 + 16 * p) = some (plO (mDec1 M p l b o P) np p) := (hC2.pl hp).1
      have e3 : mDec1 M p l b o P 3 = M 3 := rfl
      unfold plO wlA at hp2
      rw [befM_congr e3] at hp2
      by_cases c : befM M p p = -1
      · rw [if_pos c] at hp2
        have hp2 : G2 (1000 + 16 * p) = some (oB 5 [_, _, _, _, _, _, _, .null, _]) := hp2
        have eM : wallI (mDec1 M p l b o P) (befM M p p) (nI p) o = mDec1 M p l b o P := if_pos (Or.inl c)
        refine A.aload_k 0 rfl rfl rfl d_af_decree_68 ?_
        refine A.aload_k 2 rfl rfl rfl d_af_decree_69 ?_
        apply A.getfield f_af_165 d_af_decree_70
        · repeat first | assumption | exact up_s | refine up_e (by first | decide | omega) ?_
        · rfl
        refine A.iload rfl d_af_decree_73 ?_
        refine A.callV2 s_af_169 ?_ (Nat.le_of_ble_eq_true rfl) (Nat.le_of_ble_eq_true rfl) (Nat.le_of_ble_eq_true rfl) d_af_decree_75 rfl (c_settle0 ?_)
        · apply Exists.intro
          repeat first | assumption | exact up_s | refine up_e (by first | decide | omega) ?_
        dsimp only [psh]
        exact key2 _ G2 hC2 hF2 e3 w2 st2 (by unfold mDec; rw [eM]; rfl)
      · rw [if_neg c] at hp2
        obtain ⟨d, d1, d2⟩ := (befM_in M p p).resolve_left c
        rw [d2, hN_nI (by omega)] at hp2
        have hp2 : G2 (1000 + 16 * p) = some (oB 5 [_, _, _, _, _, _, _, .ref (1005 + 16 * d), _]) := hp2
        refine A.aload_k 0 rfl rfl rfl d_af_decree_68 ?_
        refine A.aload_k 2 rfl rfl rfl d_af_decree_69 ?_
        apply A.getfield f_af_165 d_af_decree_70
        · repeat first | assumption | exact up_s | refine up_e (by first | decide | omega) ?_
        · rfl
        refine A.iload rfl d_af_decree_73 ?_
        refine A.callV2 s_af_169 ?_ (Nat.le_of_ble_eq_true rfl) (Nat.le_of_ble_eq_true rfl) (Nat.le_of_ble_eq_true rfl) d_af_decree_75 rfl (c_settle1 hC2 w2 st2 (by omega) hp d1 ((nxt_c e3 d).trans (bef_nxt hp h24 d1 d2)) o1 (fun G4 hC4 hF4 => ?_))
        · apply Exists.intro
          repeat first | assumption | exact up_s | refine up_e (by first | decide | omega) ?_
        dsimp only [psh]
        exact key2 _ G4 hC4 (hF2.tr hF4) ((wallI_3 _ _ _).trans e3) (w2.wall o1) (fun q hq => by rw [wallI_6]; exact st2 q hq) (by unfold mDec; rw [d2]; rfl)
    refine A.aload_k 2 rfl rfl rfl d_af_decree_48 ?_
    apply A.getfield f_af_113 d_af_decree_49
    · repeat first | exact hr1 | exact a1 | exact hpl1 | refine up_e (by omega) ?_
    · rfl
    refine A.iload_k 3 rfl rfl d_af_decree_52 ?_
    refine A.bipush (v := 40) rfl d_af_decree_53 ?_
    refine A.callV2 s_af_159 ?_ (Nat.le_of_ble_eq_true rfl) (Nat.le_of_ble_eq_true rfl) (Nat.le_of_ble_eq_true rfl) d_af_decree_55 rfl (c_ch_prolong a1 a3 (by omega) (by omega) (by omega) ?_)
    · apply Exists.intro
      repeat first | exact hr1 | exact a1 | exact hpl1 | refine up_e (by omega) ?_
    dsimp only [psh]
    refine A.aload_k 2 rfl rfl rfl d_af_decree_58 ?_
    refine A.iload rfl d_af_decree_59 ?_
    refine A.aload_k 0 rfl rfl rfl d_af_decree_61 ?_
    apply A.getfield f_af_54 d_af_decree_62
    · repeat first | exact hr1 | exact a1 | exact hpl1 | refine up_e (by omega) ?_
    · rfl
    refine A.callV2 s_af_162 ?_ (Nat.le_of_ble_eq_true rfl) (Nat.le_of_ble_eq_true rfl) (Nat.le_of_ble_eq_true rfl) d_af_decree_65 rfl (c_pl_raise (up_e (by omega) hpl1) ?_)
    · apply Exists.intro
      repeat first | exact hr1 | exact a1 | exact hpl1 | refine up_e (by omega) ?_
    dsimp only [psh]
    skip
    exact key _ hC2 (((hF1.up (by omega) (by omega)).up (by omega) (by omega)))
  refine A.aload_k 0 rfl rfl rfl d_af_decree_0 ?_
  refine A.iload_k 1 rfl rfl d_af_decree_1 ?_
  refine A.callV1 s_af_106 ?_ (Nat.le_of_ble_eq_true rfl) (Nat.le_of_ble_eq_true rfl) (Nat.le_of_ble_eq_true rfl) d_af_decree_2 rfl (c_af_plotAt hC hw.2.1 (fun p hp hx => ?_) (fun q0 => ?_))
  · apply Exists.intro
    repeat first | assumption | exact up_s | refine up_e (by first | decide | omega) ?_
  · dsimp only [psh]
    refine A.astore_k 2 rfl (Nat.le_of_ble_eq_true rfl) rfl rfl d_af_decree_5 ?_
    dsimp only [List.set]
    refine A.aload_k 2 rfl rfl rfl d_af_decree_6 ?_
    refine A.ifnull_r d_af_decree_7 ?_
    refine A.aload_k 2 rfl rfl rfl d_af_decree_10 ?_
    apply A.getfield f_af_110 d_af_decree_11
    · exact (hC.pl hp).1
    · rfl
    refine A.if_eq 19 (by decide) d_af_decree_14 (fun c14 => ?_) (fun c14 => ?_)
    · obtain ⟨l, l1, l2⟩ := hw.2.2.1 p
      have g : ¬ (M 6 p = 2 ∨ M 6 p = 3) := by rw [c14]; decide
      refine A.aload_k 0 rfl rfl rfl d_af_decree_19 ?_
      refine A.aload_k 2 rfl rfl rfl d_af_decree_20 ?_
      refine A.callV1 s_af_137 ?_ (Nat.le_of_ble_eq_true rfl) (Nat.le_of_ble_eq_true rfl) (Nat.le_of_ble_eq_true rfl) d_af_decree_21 rfl (c_af_findBuilder hC hw hp g l2 l1 ?_)
      · apply Exists.intro
        repeat first | assumption | exact up_s | refine up_e (by first | decide | omega) ?_
      dsimp only [psh]
      refine A.istore_k 3 rfl (Nat.le_of_ble_eq_true rfl) rfl d_af_decree_24 ?_
      dsimp only [List.set]
      refine A.iload_k 3 rfl rfl d_af_decree_25 ?_
      refine A.iconst (v := -1) rfl d_af_decree_26 ?_
      refine A.icmp_ne 32 (by decide) d_af_decree_27 (fun c27 => ?_) (fun c27 => ?_)
      rotate_left
      · refine A.iconst (v := -1) rfl d_af_decree_30 ?_
        refine A.iret d_af_decree_31 rfl ?_
        exact h2 p l hp hx c14 l2 l1 c27
      obtain ⟨b, hb, eb⟩ := (bldM_cases M p (l + 1)).resolve_left c27
      rw [eb]
      exact main p l b hp hx c14 l2 l1 (by omega) eb
    · refine A.iconst (v := -1) rfl d_af_decree_17 ?_
      refine A.iret d_af_decree_18 rfl ?_
      first | exact h0 (fun z => z.elim (fun p' h => q0 p' h.1 h.2.1)) | (refine h0 (fun z => ?_); obtain ⟨p', z1, z2, z3⟩ := z; obtain rfl : p' = p := nI_inj (by omega) (by omega) (z2.symm.trans hx); exact c14 z3)
  · dsimp only [psh]
    refine A.astore_k 2 rfl (Nat.le_of_ble_eq_true rfl) rfl rfl d_af_decree_5 ?_
    dsimp only [List.set]
    refine A.aload_k 2 rfl rfl rfl d_af_decree_6 ?_
    refine A.ifnull_0 17 (by decide) d_af_decree_7 ?_
    refine A.iconst (v := -1) rfl d_af_decree_17 ?_
    refine A.iret d_af_decree_18 rfl ?_
    first | exact h0 (fun z => z.elim (fun p' h => q0 p' h.1 h.2.1)) | (refine h0 (fun z => ?_); obtain ⟨p', z1, z2, z3⟩ := z; obtain rfl : p' = p := nI_inj (by omega) (by omega) (z2.symm.trans hx); exact c14 z3)
end DECREE
