/-! the reference, on: leases, worths, interests, builders, walls -/
section MODEL2
variable {M S : MS} {C : Nat → Int64} {G : AHp} {kc ks np : Nat} {Q : Option Value → AHp → Prop}
def mLease (M : MS) (p l : Nat) (h y r : Int32) : MS := va_up (va_up (va_up (va_up M 7 (upd (M 7) p (nI (l + 1)))) 8 (upd (M 8) (4 * p + l + 1) h)) 9 (upd (M 9) (4 * p + l + 1) y)) 10 (upd (M 10) (4 * p + l + 1) r)
theorem c_md_lease {x h y r : Int32} (hM : MH G M S C) (hw : WF M np)
    (h0 : ¬ (∃ p l, p < np ∧ x = nI p ∧ M 7 p = nI l ∧ l < 3 ∧ M 6 p = 0 ∧ (∃ q, q < 20 ∧ h = nI q) ∧ (1 ≤ y ∧ y ≤ M 9 (4 * p + l)) ∧ (0 ≤ r ∧ r ≤ 999)) → Q (some (.int (-1))) G)
    (h1 : ∀ p l o, p < np → x = nI p → M 7 p = nI l → l < 3 → M 6 p = 0 → o < 20 → h = nI o → (1 ≤ y ∧ y ≤ M 9 (4 * p + l)) → (0 ≤ r ∧ r ≤ 999) → ∀ G', MH G' (mLease M p l h y r) S C → FrM G G' → Q (some (.int (nI (l + 1)))) G') : A 2 M_md_lease 0 [some (.ref 100), some (.int x), some (.int h), some (.int y), some (.int r), none] [] G kc ks Q := by
  obtain ⟨hn, hn2, hl, -⟩ := hw
  refine A.aload_k 0 rfl rfl rfl d_md_lease_0 ?_
  refine A.iload_k 1 rfl rfl d_md_lease_1 ?_
  refine A.callV1 s_md_101 ?_ (Nat.le_of_ble_eq_true rfl) (Nat.le_of_ble_eq_true rfl) (Nat.le_of_ble_eq_true rfl) d_md_lease_2 rfl (c_md_isPlot hM hn hn2 (fun p j1 j2 => ?_) (fun j3 => ?_))
  · apply Exists.intro
    repeat first | exact up_s | refine up_e (by decide) ?_ | exact hM.1 | exact hM.2.1 _ rfl
  · dsimp only [psh]
    refine A.if_eq1 d_md_lease_5 (tgt := 37) (by decide) ?_
    subst j2
    obtain ⟨l, hl3, el⟩ := hl p
    refine A.aload_k 0 rfl rfl rfl d_md_lease_8 ?_
    apply A.getfield f_md_22 d_md_lease_9
    · repeat first | exact up_s | refine up_e (by decide) ?_ | exact hM.1 | exact hM.2.1 _ rfl
    · rfl
    refine A.iload_k 1 rfl rfl d_md_lease_12 ?_
    apply A.iaload (j := p) d_md_lease_13
    · repeat first | exact up_s | refine up_e (by decide) ?_ | exact hM.1 | exact hM.2.1 _ rfl
    · exact ixn (by omega)
    · show p < 24; omega
    refine A.if_ne 37 (by decide) d_md_lease_14 (fun c14 => ?_) (fun c14 => ?_)
    · refine A.iconst (v := -1) rfl d_md_lease_37 ?_
      refine A.iret d_md_lease_38 rfl ?_
      first | exact h0 (fun z => by obtain ⟨p, l, y1, y2, -⟩ := z; exact j3 p y1 y2) | (refine h0 (fun z => ?_); obtain ⟨p', l', y1, y2, y3, y4, y5, ⟨q, y6, y7⟩, y8, y9⟩ := z; have := nI_inj (by omega) (by omega) y2; subst this; first | exact c14 y5 | exact a3 (by rw [y7]; exact nI_bt (n := 19) (by decide) (by omega) (by omega)) | (have := nI_inj (b := 3) (by omega) (by omega) c34; have := nI_inj (by omega) (by omega) (el.symm.trans y3); omega))
    · refine A.iload_k 2 rfl rfl d_md_lease_17 ?_
      refine A.iconst (v := 0) rfl d_md_lease_18 ?_
      refine A.bipush (v := 19) rfl d_md_lease_19 ?_
      refine A.callS3 s_md_87 (Nat.le_of_ble_eq_true rfl) (Nat.le_of_ble_eq_true rfl) (Nat.le_of_ble_eq_true rfl) d_md_lease_21 rfl (c_md_in (fun a1 a2 => ?_) (fun a3 => ?_))
      · dsimp only [psh]
        refine A.if_eq1 d_md_lease_24 (tgt := 37) (by decide) ?_
        refine A.aload_k 0 rfl rfl rfl d_md_lease_27 ?_
        apply A.getfield f_md_25 d_md_lease_28
        · repeat first | exact up_s | refine up_e (by decide) ?_ | exact hM.1 | exact hM.2.1 _ rfl
        · rfl
        refine A.iload_k 1 rfl rfl d_md_lease_31 ?_
        apply A.iaload (j := p) d_md_lease_32
        · repeat first | exact up_s | refine up_e (by decide) ?_ | exact hM.1 | exact hM.2.1 _ rfl
        · exact ixn (by omega)
        · show p < 24; omega
        rw [el]
        refine A.iconst (v := 3) rfl d_md_lease_33 ?_
        refine A.icmp_ne 39 (by decide) d_md_lease_34 (fun c34 => ?_) (fun c34 => ?_)
        · have hl4 : l < 3 := by
            rcases Nat.lt_or_ge l 3 with y | y
            · exact y
            · have : l = 3 := by omega
              subst this
              exact absurd rfl c34
          refine A.iconst (v := 4) rfl d_md_lease_39 ?_
          refine A.iload_k 1 rfl rfl d_md_lease_40 ?_
          refine A.imul d_md_lease_41 ?_
          refine A.aload_k 0 rfl rfl rfl d_md_lease_42 ?_
          apply A.getfield f_md_25 d_md_lease_43
          · repeat first | exact up_s | refine up_e (by decide) ?_ | exact hM.1 | exact hM.2.1 _ rfl
          · rfl
          refine A.iload_k 1 rfl rfl d_md_lease_46 ?_
          apply A.iaload (j := p) d_md_lease_47
          · repeat first | exact up_s | refine up_e (by decide) ?_ | exact hM.1 | exact hM.2.1 _ rfl
          · exact ixn (by omega)
          · show p < 24; omega
          rw [el]
          refine A.iadd d_md_lease_48 ?_
          refine A.istore (Nat.le_of_ble_eq_true rfl) rfl d_md_lease_49 ?_
          dsimp only [List.set]
          refine A.iload_k 3 rfl rfl d_md_lease_51 ?_
          refine A.iconst (v := 1) rfl d_md_lease_52 ?_
          refine A.aload_k 0 rfl rfl rfl d_md_lease_53 ?_
          apply A.getfield f_md_31 d_md_lease_54
          · repeat first | exact up_s | refine up_e (by decide) ?_ | exact hM.1 | exact hM.2.1 _ rfl
          · rfl
          refine A.iload rfl d_md_lease_57 ?_
          apply A.iaload (j := 4 * p + l) d_md_lease_59
          · repeat first | exact up_s | refine up_e (by decide) ?_ | exact hM.1 | exact hM.2.1 _ rfl
          · exact ix4 (by omega) (by omega)
          · show 4 * p + l < 96; omega
          refine A.callS3 s_md_87 (Nat.le_of_ble_eq_true rfl) (Nat.le_of_ble_eq_true rfl) (Nat.le_of_ble_eq_true rfl) d_md_lease_60 rfl (c_md_in (fun b1 b2 => ?_) (fun b3 => ?_))
          · dsimp only [psh]
            refine A.if_eq1 d_md_lease_63 (tgt := 78) (by decide) ?_
            refine A.iload rfl d_md_lease_66 ?_
            refine A.iconst (v := 0) rfl d_md_lease_68 ?_
            refine A.sipush (v := 999) rfl d_md_lease_69 ?_
            refine A.callS3 s_md_87 (Nat.le_of_ble_eq_true rfl) (Nat.le_of_ble_eq_true rfl) (Nat.le_of_ble_eq_true rfl) d_md_lease_72 rfl (c_md_in (fun e1 e2 => ?_) (fun e3 => ?_))
            · dsimp only [psh]
              refine A.if_ne1 80 (by decide) d_md_lease_75 ?_
              refine A.aload_k 0 rfl rfl rfl d_md_lease_80 ?_
              apply A.getfield f_md_25 d_md_lease_81
              · repeat first | exact up_s | refine up_e (by decide) ?_ | exact hM.1 | exact hM.2.1 _ rfl
              · rfl
              refine A.iload_k 1 rfl rfl d_md_lease_84 ?_
              refine A.dup2 rfl rfl d_md_lease_85 ?_
              apply A.iaload (j := p) d_md_lease_86
              · repeat first | exact up_s | refine up_e (by decide) ?_ | exact hM.1 | exact hM.2.1 _ rfl
              · exact ixn (by omega)
              · show p < 24; omega
              rw [el]
              refine A.iconst (v := 1) rfl d_md_lease_87 ?_
              refine A.iadd d_md_lease_88 ?_
              apply A.iastore (j := p) d_md_lease_89
              · repeat first | exact up_s | refine up_e (by decide) ?_ | exact hM.1 | exact hM.2.1 _ rfl
              · first | decide | omega
              · exact ixn (by omega)
              · show p < 24; omega
              refine A.aload_k 0 rfl rfl rfl d_md_lease_90 ?_
              apply A.getfield f_md_28 d_md_lease_91
              · repeat first | exact up_s | refine up_e (by decide) ?_ | exact hM.1 | exact hM.2.1 _ rfl
              · rfl
              refine A.iload rfl d_md_lease_94 ?_
              refine A.iconst (v := 1) rfl d_md_lease_96 ?_
              refine A.iadd d_md_lease_97 ?_
              refine A.iload_k 2 rfl rfl d_md_lease_98 ?_
              apply A.iastore (j := 4 * p + l + 1) d_md_lease_99
              · repeat first | exact up_s | refine up_e (by decide) ?_ | exact hM.1 | exact hM.2.1 _ rfl
              · first | decide | omega
              · exact ix4s (by omega) (by omega)
              · show 4 * p + l + 1 < 96; omega
              refine A.aload_k 0 rfl rfl rfl d_md_lease_100 ?_
              apply A.getfield f_md_31 d_md_lease_101
              · repeat first | exact up_s | refine up_e (by decide) ?_ | exact hM.1 | exact hM.2.1 _ rfl
              · rfl
              refine A.iload rfl d_md_lease_104 ?_
              refine A.iconst (v := 1) rfl d_md_lease_106 ?_
              refine A.iadd d_md_lease_107 ?_
              refine A.iload_k 3 rfl rfl d_md_lease_108 ?_
              apply A.iastore (j := 4 * p + l + 1) d_md_lease_109
              · repeat first | exact up_s | refine up_e (by decide) ?_ | exact hM.1 | exact hM.2.1 _ rfl
              · first | decide | omega
              · exact ix4s (by omega) (by omega)
              · show 4 * p + l + 1 < 96; omega
              refine A.aload_k 0 rfl rfl rfl d_md_lease_110 ?_
              apply A.getfield f_md_34 d_md_lease_111
              · repeat first | exact up_s | refine up_e (by decide) ?_ | exact hM.1 | exact hM.2.1 _ rfl
              · rfl
              refine A.iload rfl d_md_lease_114 ?_
              refine A.iconst (v := 1) rfl d_md_lease_116 ?_
              refine A.iadd d_md_lease_117 ?_
              refine A.iload rfl d_md_lease_118 ?_
              apply A.iastore (j := 4 * p + l + 1) d_md_lease_120
              · repeat first | exact up_s | refine up_e (by decide) ?_ | exact hM.1 | exact hM.2.1 _ rfl
              · first | decide | omega
              · exact ix4s (by omega) (by omega)
              · show 4 * p + l + 1 < 96; omega
              refine A.aload_k 0 rfl rfl rfl d_md_lease_121 ?_
              apply A.getfield f_md_25 d_md_lease_122
              · repeat first | exact up_s | refine up_e (by decide) ?_ | exact hM.1 | exact hM.2.1 _ rfl
              · rfl
              refine A.iload_k 1 rfl rfl d_md_lease_125 ?_
              apply A.iaload (j := p) d_md_lease_126
              · repeat first | exact up_s | refine up_e (by decide) ?_ | exact hM.1 | exact hM.2.1 _ rfl
              · exact ixn (by omega)
              · show p < 24; omega
              refine A.iret d_md_lease_127 rfl ?_
              rw [pk_us]
              obtain ⟨o, y1, y2⟩ := in_lit (n := 19) (by decide) (by omega) a1 a2
              rw [nI_1]
              exact h1 p l o j1 rfl el hl4 c14 (by omega) y2 ⟨b1, b2⟩ ⟨e1, e2⟩ _ ((((hM.arr 7 rfl _).arr 8 rfl _).arr 9 rfl _).arr 10 rfl _) (by repeat (first | exact FrM.rf | refine FrM.up ?_ (by decide) (by decide)))
            · dsimp only [psh]
              refine A.if_ne0 d_md_lease_75 (tgt := 80) (by decide) ?_
              refine A.iconst (v := -1) rfl d_md_lease_78 ?_
              refine A.iret d_md_lease_79 rfl ?_
              (refine h0 (fun z => ?_); obtain ⟨p', l', y1, y2, y3, y4, y5, ⟨q, y6, y7⟩, y8, y9⟩ := z; have := nI_inj (by omega) (by omega) y2; subst this; have := nI_inj (by omega) (by omega) (el.symm.trans y3); subst this; first | exact b3 y8 | exact e3 y9)
          · dsimp only [psh]
            refine A.if_eq0 78 (by decide) d_md_lease_63 ?_
            refine A.iconst (v := -1) rfl d_md_lease_78 ?_
            refine A.iret d_md_lease_79 rfl ?_
            (refine h0 (fun z => ?_); obtain ⟨p', l', y1, y2, y3, y4, y5, ⟨q, y6, y7⟩, y8, y9⟩ := z; have := nI_inj (by omega) (by omega) y2; subst this; have := nI_inj (by omega) (by omega) (el.symm.trans y3); subst this; first | exact b3 y8 | exact e3 y9)
        · refine A.iconst (v := -1) rfl d_md_lease_37 ?_
          refine A.iret d_md_lease_38 rfl ?_
          first | exact h0 (fun z => by obtain ⟨p, l, y1, y2, -⟩ := z; exact j3 p y1 y2) | (refine h0 (fun z => ?_); obtain ⟨p', l', y1, y2, y3, y4, y5, ⟨q, y6, y7⟩, y8, y9⟩ := z; have := nI_inj (by omega) (by omega) y2; subst this; first | exact c14 y5 | exact a3 (by rw [y7]; exact nI_bt (n := 19) (by decide) (by omega) (by omega)) | (have := nI_inj (b := 3) (by omega) (by omega) c34; have := nI_inj (by omega) (by omega) (el.symm.trans y3); omega))
      · dsimp only [psh]
        refine A.if_eq0 37 (by decide) d_md_lease_24 ?_
        refine A.iconst (v := -1) rfl d_md_lease_37 ?_
        refine A.iret d_md_lease_38 rfl ?_
        first | exact h0 (fun z => by obtain ⟨p, l, y1, y2, -⟩ := z; exact j3 p y1 y2) | (refine h0 (fun z => ?_); obtain ⟨p', l', y1, y2, y3, y4, y5, ⟨q, y6, y7⟩, y8, y9⟩ := z; have := nI_inj (by omega) (by omega) y2; subst this; first | exact c14 y5 | exact a3 (by rw [y7]; exact nI_bt (n := 19) (by decide) (by omega) (by omega)) | (have := nI_inj (b := 3) (by omega) (by omega) c34; have := nI_inj (by omega) (by omega) (el.symm.trans y3); omega))
  · dsimp only [psh]
    refine A.if_eq0 37 (by decide) d_md_lease_5 ?_
    refine A.iconst (v := -1) rfl d_md_lease_37 ?_
    refine A.iret d_md_lease_38 rfl ?_
    first | exact h0 (fun z => by obtain ⟨p, l, y1, y2, -⟩ := z; exact j3 p y1 y2) | (refine h0 (fun z => ?_); obtain ⟨p', l', y1, y2, y3, y4, y5, ⟨q, y6, y7⟩, y8, y9⟩ := z; have := nI_inj (by omega) (by omega) y2; subst this; first | exact c14 y5 | exact a3 (by rw [y7]; exact nI_bt (n := 19) (by decide) (by omega) (by omega)) | (have := nI_inj (b := 3) (by omega) (by omega) c34; have := nI_inj (by omega) (by omega) (el.symm.trans y3); omega))
def mRates (M : MS) (a b c : Int32) : MS := va_up (va_up (va_up M 16 (fun _ => a)) 17 (fun _ => b)) 18 (fun _ => c)
theorem c_md_rates {a b c : Int32} (hM : MH G M S C) (h0 : ¬ ((1 ≤ a ∧ a ≤ 9) ∧ (1 ≤ b ∧ b ≤ 9) ∧ (0 ≤ c ∧ c ≤ 60)) → Q (some (.int 0)) G) (h1 : (1 ≤ a ∧ a ≤ 9) → (1 ≤ b ∧ b ≤ 9) → (0 ≤ c ∧ c ≤ 60) → ∀ G', MH G' (mRates M a b c) S C → FrM G G' → Q (some (.int 1)) G') : A 1 M_md_rates 0 [some (.ref 100), some (.int a), some (.int b), some (.int c)] [] G kc ks Q := by
  refine A.iload_k 1 rfl rfl d_md_rates_0 ?_
  refine A.iconst (v := 1) rfl d_md_rates_1 ?_
  refine A.bipush (v := 9) rfl d_md_rates_2 ?_
  refine A.callS3 s_md_87 (Nat.le_of_ble_eq_true rfl) (Nat.le_of_ble_eq_true rfl) (Nat.le_of_ble_eq_true rfl) d_md_rates_4 rfl (c_md_in (fun a1 a2 => ?_) (fun a3 => ?_))
  · dsimp only [psh]
    refine A.if_eq1 d_md_rates_7 (tgt := 30) (by decide) ?_
    refine A.iload_k 2 rfl rfl d_md_rates_10 ?_
    refine A.iconst (v := 1) rfl d_md_rates_11 ?_
    refine A.bipush (v := 9) rfl d_md_rates_12 ?_
    refine A.callS3 s_md_87 (Nat.le_of_ble_eq_true rfl) (Nat.le_of_ble_eq_true rfl) (Nat.le_of_ble_eq_true rfl) d_md_rates_14 rfl (c_md_in (fun b1 b2 => ?_) (fun b3 => ?_))
    · dsimp only [psh]
      refine A.if_eq1 d_md_rates_17 (tgt := 30) (by decide) ?_
      refine A.iload_k 3 rfl rfl d_md_rates_20 ?_
      refine A.iconst (v := 0) rfl d_md_rates_21 ?_
      refine A.bipush (v := 60) rfl d_md_rates_22 ?_
      refine A.callS3 s_md_87 (Nat.le_of_ble_eq_true rfl) (Nat.le_of_ble_eq_true rfl) (Nat.le_of_ble_eq_true rfl) d_md_rates_24 rfl (c_md_in (fun e1 e2 => ?_) (fun e3 => ?_))
      · dsimp only [psh]
        refine A.if_ne1 32 (by decide) d_md_rates_27 ?_
        refine A.aload_k 0 rfl rfl rfl d_md_rates_32 ?_
        refine A.iload_k 1 rfl rfl d_md_rates_33 ?_
        apply A.putfield p_md_52 d_md_rates_34
        · repeat first | exact up_s | refine up_e (by decide) ?_ | exact hM.1 | exact hM.2.1 _ rfl
        · exact (Nat.le_of_ble_eq_true rfl)
        · rfl
        dsimp only [List.set]
        refine A.aload_k 0 rfl rfl rfl d_md_rates_37 ?_
        refine A.iload_k 2 rfl rfl d_md_rates_38 ?_
        apply A.putfield p_md_56 d_md_rates_39
        · repeat first | exact up_s | refine up_e (by decide) ?_ | exact hM.1 | exact hM.2.1 _ rfl
        · exact (Nat.le_of_ble_eq_true rfl)
        · rfl
        dsimp only [List.set]
        refine A.aload_k 0 rfl rfl rfl d_md_rates_42 ?_
        refine A.iload_k 3 rfl rfl d_md_rates_43 ?_
        apply A.putfield p_md_59 d_md_rates_44
        · repeat first | exact up_s | refine up_e (by decide) ?_ | exact hM.1 | exact hM.2.1 _ rfl
        · exact (Nat.le_of_ble_eq_true rfl)
        · rfl
        dsimp only [List.set]
        refine A.iconst (v := 1) rfl d_md_rates_47 ?_
        refine A.zret d_md_rates_48 rfl (Or.inr rfl) ?_
        exact h1 ⟨a1, a2⟩ ⟨b1, b2⟩ ⟨e1, e2⟩ _ (((hM.fld 16 rfl a).fld 17 rfl b).fld 18 rfl c) (by repeat (first | exact FrM.rf | refine FrM.up ?_ (by decide) (by decide)))
      · dsimp only [psh]
        refine A.if_ne0 d_md_rates_27 (tgt := 32) (by decide) ?_
        refine A.iconst (v := 0) rfl d_md_rates_30 ?_
        refine A.zret d_md_rates_31 rfl (Or.inl rfl) ?_
        first | exact h0 (fun z => e3 z.2.2) | exact h0 (fun z => b3 z.2.1) | exact h0 (fun z => a3 z.1)
    · dsimp only [psh]
      refine A.if_eq0 30 (by decide) d_md_rates_17 ?_
      refine A.iconst (v := 0) rfl d_md_rates_30 ?_
      refine A.zret d_md_rates_31 rfl (Or.inl rfl) ?_
      first | exact h0 (fun z => e3 z.2.2) | exact h0 (fun z => b3 z.2.1) | exact h0 (fun z => a3 z.1)
  · dsimp only [psh]
    refine A.if_eq0 30 (by decide) d_md_rates_7 ?_
    refine A.iconst (v := 0) rfl d_md_rates_30 ?_
    refine A.zret d_md_rates_31 rfl (Or.inl rfl) ?_
    first | exact h0 (fun z => e3 z.2.2) | exact h0 (fun z => b3 z.2.1) | exact h0 (fun z => a3 z.1)
def wthM (M : MS) (p : Nat) : Int32 := M 4 p * M 5 p / 20
theorem c_md_worth {x : Int32} (hM : MH G M S C) (hn : M 2 0 = nI np) (hn2 : np ≤ 24) (h1 : ∀ p, p < np → x = nI p → Q (some (.int (wthM M p))) G) (h0 : (∀ q, q < np → x ≠ nI q) → Q (some (.int (-1))) G) : A 2 M_md_worth 0 [some (.ref 100), some (.int x)] [] G kc ks Q := by
  refine A.aload_k 0 rfl rfl rfl d_md_worth_0 ?_
  refine A.iload_k 1 rfl rfl d_md_worth_1 ?_
  refine A.callV1 s_md_101 ?_ (Nat.le_of_ble_eq_true rfl) (Nat.le_of_ble_eq_true rfl) (Nat.le_of_ble_eq_true rfl) d_md_worth_2 rfl (c_md_isPlot hM hn hn2 (fun q j1 j2 => ?_) (fun j3 => ?_))
  · apply Exists.intro
    first | exact hM.1 | exact hM.2.1 _ rfl
  · dsimp only [psh]
    refine A.if_eq1 d_md_worth_5 (tgt := 27) (by decide) ?_
    subst j2
    refine A.aload_k 0 rfl rfl rfl d_md_worth_8 ?_
    apply A.getfield f_md_16 d_md_worth_9
    · first | exact hM.1 | exact hM.2.1 _ rfl
    · rfl
    refine A.iload_k 1 rfl rfl d_md_worth_12 ?_
    apply A.iaload (j := q) d_md_worth_13
    · first | exact hM.1 | exact hM.2.1 _ rfl
    · exact ixn (by omega)
    · show q < 24; omega
    refine A.aload_k 0 rfl rfl rfl d_md_worth_14 ?_
    apply A.getfield f_md_19 d_md_worth_15
    · first | exact hM.1 | exact hM.2.1 _ rfl
    · rfl
    refine A.iload_k 1 rfl rfl d_md_worth_18 ?_
    apply A.iaload (j := q) d_md_worth_19
    · first | exact hM.1 | exact hM.2.1 _ rfl
    · exact ixn (by omega)
    · show q < 24; omega
    refine A.imul d_md_worth_20 ?_
    refine A.bipush (v := 20) rfl d_md_worth_21 ?_
    refine A.idiv (by decide) d_md_worth_23 ?_
    refine A.goto 28 (by decide) d_md_worth_24 ?_
    refine A.iret d_md_worth_28 rfl ?_
    first | exact h1 q j1 rfl | exact h0 j3
  · dsimp only [psh]
    refine A.if_eq0 27 (by decide) d_md_worth_5 ?_
    refine A.iconst (v := -1) rfl d_md_worth_27 ?_
    refine A.iret d_md_worth_28 rfl ?_
    first | exact h1 q j1 rfl | exact h0 j3
theorem c_md_isPlace {x k : Int32} (hM : MH G M S C) (hw : WF M np) (h1 : ∀ p j l, p < np → x = nI p → M 7 p = nI l → l ≤ 3 → j ≤ l → k = nI j → ¬ (M 6 p = 2 ∨ M 6 p = 3) → Q (some (.int 1)) G)
    (h0 : (∀ p j l, p < np → x = nI p → M 7 p = nI l → l ≤ 3 → j ≤ l → k = nI j → (M 6 p = 2 ∨ M 6 p = 3)) → Q (some (.int 0)) G) : A 2 M_md_isPlace 0 [some (.ref 100), some (.int x), some (.int k)] [] G kc ks Q := by
  obtain ⟨hn, hn2, hl, -⟩ := hw
  refine A.aload_k 0 rfl rfl rfl d_md_isPlace_0 ?_
  refine A.iload_k 1 rfl rfl d_md_isPlace_1 ?_
  refine A.callV1 s_md_101 ?_ (Nat.le_of_ble_eq_true rfl) (Nat.le_of_ble_eq_true rfl) (Nat.le_of_ble_eq_true rfl) d_md_isPlace_2 rfl (c_md_isPlot hM hn hn2 (fun p j1 j2 => ?_) (fun j3 => ?_))
  · apply Exists.intro
    first | exact hM.1 | exact hM.2.1 _ rfl
  · dsimp only [psh]
    refine A.if_eq1 d_md_isPlace_5 (tgt := 34) (by decide) ?_
    subst j2
    obtain ⟨l, hl3, el⟩ := hl p
    refine A.aload_k 0 rfl rfl rfl d_md_isPlace_8 ?_
    refine A.iload_k 1 rfl rfl d_md_isPlace_9 ?_
    refine A.callV1 s_md_104 ?_ (Nat.le_of_ble_eq_true rfl) (Nat.le_of_ble_eq_true rfl) (Nat.le_of_ble_eq_true rfl) d_md_isPlace_10 rfl (c_md_isGone hM (by omega) (fun g1 => ?_) (fun g2 => ?_))
    · apply Exists.intro
      first | exact hM.1 | exact hM.2.1 _ rfl
    · dsimp only [psh]
      refine A.if_ne1 34 (by decide) d_md_isPlace_13 ?_
      refine A.iconst (v := 0) rfl d_md_isPlace_34 ?_
      refine A.zret d_md_isPlace_35 rfl (Or.inl rfl) ?_
      first | (obtain ⟨j, y1, y2⟩ := in_lit (n := l) (ixn (by omega)) (by omega) i1 i2; exact h1 p j l j1 rfl el hl3 y1 y2 g2) | exact h0 (fun p j l y1 y2 _ _ _ _ => absurd y2 (j3 p y1)) | (refine h0 (fun p' j' l' y1 y2 y3 y33 y4 y5 => ?_); have := nI_inj (by omega) (by omega) y2; subst this; first | exact g1 | (have := nI_inj (by omega) (by omega) (el.symm.trans y3); subst this; exact absurd (by rw [y5]; exact nI_bt (ixn (by omega)) y4 (by omega)) i3))
    · dsimp only [psh]
      refine A.if_ne0 d_md_isPlace_13 (tgt := 34) (by decide) ?_
      refine A.iload_k 2 rfl rfl d_md_isPlace_16 ?_
      refine A.iconst (v := 0) rfl d_md_isPlace_17 ?_
      refine A.aload_k 0 rfl rfl rfl d_md_isPlace_18 ?_
      apply A.getfield f_md_25 d_md_isPlace_19
      · first | exact hM.1 | exact hM.2.1 _ rfl
      · rfl
      refine A.iload_k 1 rfl rfl d_md_isPlace_22 ?_
      apply A.iaload (j := p) d_md_isPlace_23
      · first | exact hM.1 | exact hM.2.1 _ rfl
      · exact ixn (by omega)
      · show p < 24; omega
      rw [el]
      refine A.callS3 s_md_87 (Nat.le_of_ble_eq_true rfl) (Nat.le_of_ble_eq_true rfl) (Nat.le_of_ble_eq_true rfl) d_md_isPlace_24 rfl (c_md_in (fun i1 i2 => ?_) (fun i3 => ?_))
      · dsimp only [psh]
        refine A.if_eq1 d_md_isPlace_27 (tgt := 34) (by decide) ?_
        refine A.iconst (v := 1) rfl d_md_isPlace_30 ?_
        refine A.goto 35 (by decide) d_md_isPlace_31 ?_
        refine A.zret d_md_isPlace_35 rfl (Or.inr rfl) ?_
        first | (obtain ⟨j, y1, y2⟩ := in_lit (n := l) (ixn (by omega)) (by omega) i1 i2; exact h1 p j l j1 rfl el hl3 y1 y2 g2) | exact h0 (fun p j l y1 y2 _ _ _ _ => absurd y2 (j3 p y1)) | (refine h0 (fun p' j' l' y1 y2 y3 y33 y4 y5 => ?_); have := nI_inj (by omega) (by omega) y2; subst this; first | exact g1 | (have := nI_inj (by omega) (by omega) (el.symm.trans y3); subst this; exact absurd (by rw [y5]; exact nI_bt (ixn (by omega)) y4 (by omega)) i3))
      · dsimp only [psh]
        refine A.if_eq0 34 (by decide) d_md_isPlace_27 ?_
        refine A.iconst (v := 0) rfl d_md_isPlace_34 ?_
        refine A.zret d_md_isPlace_35 rfl (Or.inl rfl) ?_
        first | (obtain ⟨j, y1, y2⟩ := in_lit (n := l) (ixn (by omega)) (by omega) i1 i2; exact h1 p j l j1 rfl el hl3 y1 y2 g2) | exact h0 (fun p j l y1 y2 _ _ _ _ => absurd y2 (j3 p y1)) | (refine h0 (fun p' j' l' y1 y2 y3 y33 y4 y5 => ?_); have := nI_inj (by omega) (by omega) y2; subst this; first | exact g1 | (have := nI_inj (by omega) (by omega) (el.symm.trans y3); subst this; exact absurd (by rw [y5]; exact nI_bt (ixn (by omega)) y4 (by omega)) i3))
  · dsimp only [psh]
    refine A.if_eq0 34 (by decide) d_md_isPlace_5 ?_
    refine A.iconst (v := 0) rfl d_md_isPlace_34 ?_
    refine A.zret d_md_isPlace_35 rfl (Or.inl rfl) ?_
    first | (obtain ⟨j, y1, y2⟩ := in_lit (n := l) (ixn (by omega)) (by omega) i1 i2; exact h1 p j l j1 rfl el hl3 y1 y2 g2) | exact h0 (fun p j l y1 y2 _ _ _ _ => absurd y2 (j3 p y1)) | (refine h0 (fun p' j' l' y1 y2 y3 y33 y4 y5 => ?_); have := nI_inj (by omega) (by omega) y2; subst this; first | exact g1 | (have := nI_inj (by omega) (by omega) (el.symm.trans y3); subst this; exact absurd (by rw [y5]; exact nI_bt (ixn (by omega)) y4 (by omega)) i3))
def intM (M : MS) (p j : Nat) : Int32 := if 0 < (if M 7 p ≤ nI j then wthM M p else M 10 (4 * p + j + 1)) - (if nI j ≤ 0 then 0 else M 10 (4 * p + j)) then ((if M 7 p ≤ nI j then wthM M p else M 10 (4 * p + j + 1)) - (if nI j ≤ 0 then 0 else M 10 (4 * p + j))) * (if nI j = 0 then 40 else M 9 (4 * p + j)) else 0
theorem c_md_interestOf {p j l : Nat} (hM : MH G M S C) (hn : M 2 0 = nI np) (hn2 : np ≤ 24) (hp : p < np) (hl : M 7 p = nI l) (hl3 : l ≤ 3) (hj : j ≤ 3) (h : Q (some (.int (intM M p j))) G) : A 3 M_md_interestOf 0 [some (.ref 100), some (.int (nI p)), some (.int (nI j)), none, none] [] G kc ks Q := by
  refine A.iconst (v := 4) rfl d_md_interestOf_0 ?_
  refine A.iload_k 1 rfl rfl d_md_interestOf_1 ?_
  refine A.imul d_md_interestOf_2 ?_
  refine A.iload_k 2 rfl rfl d_md_interestOf_3 ?_
  refine A.iadd d_md_interestOf_4 ?_
  refine A.istore_k 3 rfl (Nat.le_of_ble_eq_true rfl) rfl d_md_interestOf_5 ?_
  dsimp only [List.set]
  refine A.iload_k 2 rfl rfl d_md_interestOf_6 ?_
  refine A.aload_k 0 rfl rfl rfl d_md_interestOf_7 ?_
  apply A.getfield f_md_25 d_md_interestOf_8
  · first | exact hM.1 | exact hM.2.1 _ rfl
  · rfl
  refine A.iload_k 1 rfl rfl d_md_interestOf_11 ?_
  apply A.iaload (j := p) d_md_interestOf_12
  · first | exact hM.1 | exact hM.2.1 _ rfl
  · exact ixn (by omega)
  · show p < 24; omega
  refine A.icmp_ge 27 (by decide) d_md_interestOf_13 (fun c13 => ?_) (fun c13 => ?_)
  · refine A.aload_k 0 rfl rfl rfl d_md_interestOf_27 ?_
    refine A.iload_k 1 rfl rfl d_md_interestOf_28 ?_
    refine A.callV1 s_md_107 ?_ (Nat.le_of_ble_eq_true rfl) (Nat.le_of_ble_eq_true rfl) (Nat.le_of_ble_eq_true rfl) d_md_interestOf_29 rfl (c_md_worth hM hn hn2 (fun p' w1 w2 => ?_) (fun w3 => absurd rfl (w3 p hp)))
    · apply Exists.intro
      first | exact hM.1 | exact hM.2.1 _ rfl
    have w2 := nI_inj (by omega) (by omega) w2
    subst w2
    dsimp only [psh]
    refine A.iload_k 2 rfl rfl d_md_interestOf_32 ?_
    refine A.if_le 45 (by decide) d_md_interestOf_33 (fun c33 => ?_) (fun c33 => ?_)
    · refine A.iconst (v := 0) rfl d_md_interestOf_45 ?_
      refine A.isub d_md_interestOf_46 ?_
      refine A.istore (Nat.le_of_ble_eq_true rfl) rfl d_md_interestOf_47 ?_
      dsimp only [List.set]
      refine A.iload rfl d_md_interestOf_49 ?_
      refine A.if_gt 58 (by decide) d_md_interestOf_51 (fun c51 => ?_) (fun c51 => ?_)
      · refine A.iload rfl d_md_interestOf_58 ?_
        refine A.iload_k 2 rfl rfl d_md_interestOf_60 ?_
        refine A.if_ne 69 (by decide) d_md_interestOf_61 (fun c61 => ?_) (fun c61 => ?_)
        · refine A.aload_k 0 rfl rfl rfl d_md_interestOf_69 ?_
          apply A.getfield f_md_31 d_md_interestOf_70
          · first | exact hM.1 | exact hM.2.1 _ rfl
          · rfl
          refine A.iload_k 3 rfl rfl d_md_interestOf_73 ?_
          apply A.iaload (j := 4 * p + j) d_md_interestOf_74
          · first | exact hM.1 | exact hM.2.1 _ rfl
          · exact ix4 (by omega) (by omega)
          · show 4 * p + j < 96; omega
          refine A.imul d_md_interestOf_75 ?_
          refine A.iret d_md_interestOf_76 rfl ?_
          unfold intM at h
          first | (simp only [c13, c33, c51, ↓reduceIte] at h; rw [if_pos c61] at h; exact h) | (simp only [c13, c33, c51, ↓reduceIte] at h; rw [if_neg c61] at h; exact h) | (simp only [c13, c33, c51, ↓reduceIte] at h; exact h)
        · refine A.bipush (v := 40) rfl d_md_interestOf_64 ?_
          refine A.goto 75 (by decide) d_md_interestOf_66 ?_
          refine A.imul d_md_interestOf_75 ?_
          refine A.iret d_md_interestOf_76 rfl ?_
          unfold intM at h
          first | (simp only [c13, c33, c51, ↓reduceIte] at h; rw [if_pos c61] at h; exact h) | (simp only [c13, c33, c51, ↓reduceIte] at h; rw [if_neg c61] at h; exact h) | (simp only [c13, c33, c51, ↓reduceIte] at h; exact h)
      · refine A.iconst (v := 0) rfl d_md_interestOf_54 ?_
        refine A.goto 76 (by decide) d_md_interestOf_55 ?_
        refine A.iret d_md_interestOf_76 rfl ?_
        unfold intM at h
        first | (simp only [c13, c33, c51, ↓reduceIte] at h; rw [if_pos c61] at h; exact h) | (simp only [c13, c33, c51, ↓reduceIte] at h; rw [if_neg c61] at h; exact h) | (simp only [c13, c33, c51, ↓reduceIte] at h; exact h)
    · refine A.aload_k 0 rfl rfl rfl d_md_interestOf_36 ?_
      apply A.getfield f_md_34 d_md_interestOf_37
      · first | exact hM.1 | exact hM.2.1 _ rfl
      · rfl
      refine A.iload_k 3 rfl rfl d_md_interestOf_40 ?_
      apply A.iaload (j := 4 * p + j) d_md_interestOf_41
      · first | exact hM.1 | exact hM.2.1 _ rfl
      · exact ix4 (by omega) (by omega)
      · show 4 * p + j < 96; omega
      refine A.goto 46 (by decide) d_md_interestOf_42 ?_
      refine A.isub d_md_interestOf_46 ?_
      refine A.istore (Nat.le_of_ble_eq_true rfl) rfl d_md_interestOf_47 ?_
      dsimp only [List.set]
      refine A.iload rfl d_md_interestOf_49 ?_
      refine A.if_gt 58 (by decide) d_md_interestOf_51 (fun c51 => ?_) (fun c51 => ?_)
      · refine A.iload rfl d_md_interestOf_58 ?_
        refine A.iload_k 2 rfl rfl d_md_interestOf_60 ?_
        refine A.if_ne 69 (by decide) d_md_interestOf_61 (fun c61 => ?_) (fun c61 => ?_)
        · refine A.aload_k 0 rfl rfl rfl d_md_interestOf_69 ?_
          apply A.getfield f_md_31 d_md_interestOf_70
          · first | exact hM.1 | exact hM.2.1 _ rfl
          · rfl
          refine A.iload_k 3 rfl rfl d_md_interestOf_73 ?_
          apply A.iaload (j := 4 * p + j) d_md_interestOf_74
          · first | exact hM.1 | exact hM.2.1 _ rfl
          · exact ix4 (by omega) (by omega)
          · show 4 * p + j < 96; omega
          refine A.imul d_md_interestOf_75 ?_
          refine A.iret d_md_interestOf_76 rfl ?_
          unfold intM at h
          first | (simp only [c13, c33, c51, ↓reduceIte] at h; rw [if_pos c61] at h; exact h) | (simp only [c13, c33, c51, ↓reduceIte] at h; rw [if_neg c61] at h; exact h) | (simp only [c13, c33, c51, ↓reduceIte] at h; exact h)
        · refine A.bipush (v := 40) rfl d_md_interestOf_64 ?_
          refine A.goto 75 (by decide) d_md_interestOf_66 ?_
          refine A.imul d_md_interestOf_75 ?_
          refine A.iret d_md_interestOf_76 rfl ?_
          unfold intM at h
          first | (simp only [c13, c33, c51, ↓reduceIte] at h; rw [if_pos c61] at h; exact h) | (simp only [c13, c33, c51, ↓reduceIte] at h; rw [if_neg c61] at h; exact h) | (simp only [c13, c33, c51, ↓reduceIte] at h; exact h)
      · refine A.iconst (v := 0) rfl d_md_interestOf_54 ?_
        refine A.goto 76 (by decide) d_md_interestOf_55 ?_
        refine A.iret d_md_interestOf_76 rfl ?_
        unfold intM at h
        first | (simp only [c13, c33, c51, ↓reduceIte] at h; rw [if_pos c61] at h; exact h) | (simp only [c13, c33, c51, ↓reduceIte] at h; rw [if_neg c61] at h; exact h) | (simp only [c13, c33, c51, ↓reduceIte] at h; exact h)
  · have hj3 : j < 3 := Nat.lt_of_not_le (fun z => c13 (by rw [hl]; exact nI_le (by omega) (by omega)))
    refine A.aload_k 0 rfl rfl rfl d_md_interestOf_16 ?_
    apply A.getfield f_md_34 d_md_interestOf_17
    · first | exact hM.1 | exact hM.2.1 _ rfl
    · rfl
    refine A.iload_k 3 rfl rfl d_md_interestOf_20 ?_
    refine A.iconst (v := 1) rfl d_md_interestOf_21 ?_
    refine A.iadd d_md_interestOf_22 ?_
    apply A.iaload (j := 4 * p + j + 1) d_md_interestOf_23
    · first | exact hM.1 | exact hM.2.1 _ rfl
    · exact ix4s (by omega) (by omega)
    · show 4 * p + j + 1 < 96; omega
    refine A.goto 32 (by decide) d_md_interestOf_24 ?_
    refine A.iload_k 2 rfl rfl d_md_interestOf_32 ?_
    refine A.if_le 45 (by decide) d_md_interestOf_33 (fun c33 => ?_) (fun c33 => ?_)
    · refine A.iconst (v := 0) rfl d_md_interestOf_45 ?_
      refine A.isub d_md_interestOf_46 ?_
      refine A.istore (Nat.le_of_ble_eq_true rfl) rfl d_md_interestOf_47 ?_
      dsimp only [List.set]
      refine A.iload rfl d_md_interestOf_49 ?_
      refine A.if_gt 58 (by decide) d_md_interestOf_51 (fun c51 => ?_) (fun c51 => ?_)
      · refine A.iload rfl d_md_interestOf_58 ?_
        refine A.iload_k 2 rfl rfl d_md_interestOf_60 ?_
        refine A.if_ne 69 (by decide) d_md_interestOf_61 (fun c61 => ?_) (fun c61 => ?_)
        · refine A.aload_k 0 rfl rfl rfl d_md_interestOf_69 ?_
          apply A.getfield f_md_31 d_md_interestOf_70
          · first | exact hM.1 | exact hM.2.1 _ rfl
          · rfl
          refine A.iload_k 3 rfl rfl d_md_interestOf_73 ?_
          apply A.iaload (j := 4 * p + j) d_md_interestOf_74
          · first | exact hM.1 | exact hM.2.1 _ rfl
          · exact ix4 (by omega) (by omega)
          · show 4 * p + j < 96; omega
          refine A.imul d_md_interestOf_75 ?_
          refine A.iret d_md_interestOf_76 rfl ?_
          unfold intM at h
          first | (simp only [c13, c33, c51, ↓reduceIte] at h; rw [if_pos c61] at h; exact h) | (simp only [c13, c33, c51, ↓reduceIte] at h; rw [if_neg c61] at h; exact h) | (simp only [c13, c33, c51, ↓reduceIte] at h; exact h)
        · refine A.bipush (v := 40) rfl d_md_interestOf_64 ?_
          refine A.goto 75 (by decide) d_md_interestOf_66 ?_
          refine A.imul d_md_interestOf_75 ?_
          refine A.iret d_md_interestOf_76 rfl ?_
          unfold intM at h
          first | (simp only [c13, c33, c51, ↓reduceIte] at h; rw [if_pos c61] at h; exact h) | (simp only [c13, c33, c51, ↓reduceIte] at h; rw [if_neg c61] at h; exact h) | (simp only [c13, c33, c51, ↓reduceIte] at h; exact h)
      · refine A.iconst (v := 0) rfl d_md_interestOf_54 ?_
        refine A.goto 76 (by decide) d_md_interestOf_55 ?_
        refine A.iret d_md_interestOf_76 rfl ?_
        unfold intM at h
        first | (simp only [c13, c33, c51, ↓reduceIte] at h; rw [if_pos c61] at h; exact h) | (simp only [c13, c33, c51, ↓reduceIte] at h; rw [if_neg c61] at h; exact h) | (simp only [c13, c33, c51, ↓reduceIte] at h; exact h)
    · refine A.aload_k 0 rfl rfl rfl d_md_interestOf_36 ?_
      apply A.getfield f_md_34 d_md_interestOf_37
      · first | exact hM.1 | exact hM.2.1 _ rfl
      · rfl
      refine A.iload_k 3 rfl rfl d_md_interestOf_40 ?_
      apply A.iaload (j := 4 * p + j) d_md_interestOf_41
      · first | exact hM.1 | exact hM.2.1 _ rfl
      · exact ix4 (by omega) (by omega)
      · show 4 * p + j < 96; omega
      refine A.goto 46 (by decide) d_md_interestOf_42 ?_
      refine A.isub d_md_interestOf_46 ?_
      refine A.istore (Nat.le_of_ble_eq_true rfl) rfl d_md_interestOf_47 ?_
      dsimp only [List.set]
      refine A.iload rfl d_md_interestOf_49 ?_
      refine A.if_gt 58 (by decide) d_md_interestOf_51 (fun c51 => ?_) (fun c51 => ?_)
      · refine A.iload rfl d_md_interestOf_58 ?_
        refine A.iload_k 2 rfl rfl d_md_interestOf_60 ?_
        refine A.if_ne 69 (by decide) d_md_interestOf_61 (fun c61 => ?_) (fun c61 => ?_)
        · refine A.aload_k 0 rfl rfl rfl d_md_interestOf_69 ?_
          apply A.getfield f_md_31 d_md_interestOf_70
          · first | exact hM.1 | exact hM.2.1 _ rfl
          · rfl
          refine A.iload_k 3 rfl rfl d_md_interestOf_73 ?_
          apply A.iaload (j := 4 * p + j) d_md_interestOf_74
          · first | exact hM.1 | exact hM.2.1 _ rfl
          · exact ix4 (by omega) (by omega)
          · show 4 * p + j < 96; omega
          refine A.imul d_md_interestOf_75 ?_
          refine A.iret d_md_interestOf_76 rfl ?_
          unfold intM at h
          first | (simp only [c13, c33, c51, ↓reduceIte] at h; rw [if_pos c61] at h; exact h) | (simp only [c13, c33, c51, ↓reduceIte] at h; rw [if_neg c61] at h; exact h) | (simp only [c13, c33, c51, ↓reduceIte] at h; exact h)
        · refine A.bipush (v := 40) rfl d_md_interestOf_64 ?_
          refine A.goto 75 (by decide) d_md_interestOf_66 ?_
          refine A.imul d_md_interestOf_75 ?_
          refine A.iret d_md_interestOf_76 rfl ?_
          unfold intM at h
          first | (simp only [c13, c33, c51, ↓reduceIte] at h; rw [if_pos c61] at h; exact h) | (simp only [c13, c33, c51, ↓reduceIte] at h; rw [if_neg c61] at h; exact h) | (simp only [c13, c33, c51, ↓reduceIte] at h; exact h)
      · refine A.iconst (v := 0) rfl d_md_interestOf_54 ?_
        refine A.goto 76 (by decide) d_md_interestOf_55 ?_
        refine A.iret d_md_interestOf_76 rfl ?_
        unfold intM at h
        first | (simp only [c13, c33, c51, ↓reduceIte] at h; rw [if_pos c61] at h; exact h) | (simp only [c13, c33, c51, ↓reduceIte] at h; rw [if_neg c61] at h; exact h) | (simp only [c13, c33, c51, ↓reduceIte] at h; exact h)
theorem c_md_interest {x k : Int32} (hM : MH G M S C) (hw : WF M np) (h1 : ∀ p j l, p < np → x = nI p → M 7 p = nI l → l ≤ 3 → j ≤ l → k = nI j → ¬ (M 6 p = 2 ∨ M 6 p = 3) → Q (some (.int (intM M p j))) G)
    (h0 : (∀ p j l, p < np → x = nI p → M 7 p = nI l → l ≤ 3 → j ≤ l → k = nI j → (M 6 p = 2 ∨ M 6 p = 3)) → Q (some (.int (-1))) G) : A 4 M_md_interest 0 [some (.ref 100), some (.int x), some (.int k)] [] G kc ks Q := by
  have hw' := hw
  obtain ⟨hn, hn2, hl, -⟩ := hw
  refine A.aload_k 0 rfl rfl rfl d_md_interest_0 ?_
  refine A.iload_k 1 rfl rfl d_md_interest_1 ?_
  refine A.iload_k 2 rfl rfl d_md_interest_2 ?_
  refine A.callV2 s_md_110 ?_ (Nat.le_of_ble_eq_true rfl) (Nat.le_of_ble_eq_true rfl) (Nat.le_of_ble_eq_true rfl) d_md_interest_3 rfl (c_md_isPlace hM hw' (fun p j l q1 q2 q3 q33 q4 q5 q6 => ?_) (fun q7 => ?_))
  · apply Exists.intro
    first | exact hM.1 | exact hM.2.1 _ rfl
  · dsimp only [psh]
    refine A.if_eq1 d_md_interest_6 (tgt := 18) (by decide) ?_
    subst q2
    subst q5
    refine A.aload_k 0 rfl rfl rfl d_md_interest_9 ?_
    refine A.iload_k 1 rfl rfl d_md_interest_10 ?_
    refine A.iload_k 2 rfl rfl d_md_interest_11 ?_
    refine A.callV2 s_md_114 ?_ (Nat.le_of_ble_eq_true rfl) (Nat.le_of_ble_eq_true rfl) (Nat.le_of_ble_eq_true rfl) d_md_interest_12 rfl (c_md_interestOf hM hn hn2 q1 q3 q33 (by omega) ?_)
    · apply Exists.intro
      first | exact hM.1 | exact hM.2.1 _ rfl
    dsimp only [psh]
    refine A.goto 19 (by decide) d_md_interest_15 ?_
    refine A.iret d_md_interest_19 rfl ?_
    first | exact h1 p j l q1 rfl q3 q33 q4 rfl q6 | exact h0 q7
  · dsimp only [psh]
    refine A.if_eq0 18 (by decide) d_md_interest_6 ?_
    refine A.iconst (v := -1) rfl d_md_interest_18 ?_
    refine A.iret d_md_interest_19 rfl ?_
    first | exact h1 p j l q1 rfl q3 q33 q4 rfl q6 | exact h0 q7
def cstM (M : MS) (p : Nat) : Int32 := M 4 p * M 5 p * M 16 0
theorem c_md_costOf {p : Nat} (hM : MH G M S C) (hp : p < 24) (h : Q (some (.int (cstM M p))) G) : A 0 M_md_costOf 0 [some (.ref 100), some (.int (nI p))] [] G kc ks Q := by
  refine A.aload_k 0 rfl rfl rfl d_md_costOf_0 ?_
  apply A.getfield f_md_16 d_md_costOf_1
  · first | exact hM.1 | exact hM.2.1 _ rfl
  · rfl
  refine A.iload_k 1 rfl rfl d_md_costOf_4 ?_
  apply A.iaload (j := p) d_md_costOf_5
  · first | exact hM.1 | exact hM.2.1 _ rfl
  · exact ixn (by omega)
  · exact hp
  refine A.aload_k 0 rfl rfl rfl d_md_costOf_6 ?_
  apply A.getfield f_md_19 d_md_costOf_7
  · first | exact hM.1 | exact hM.2.1 _ rfl
  · rfl
  refine A.iload_k 1 rfl rfl d_md_costOf_10 ?_
  apply A.iaload (j := p) d_md_costOf_11
  · first | exact hM.1 | exact hM.2.1 _ rfl
  · exact ixn (by omega)
  · exact hp
  refine A.imul d_md_costOf_12 ?_
  refine A.aload_k 0 rfl rfl rfl d_md_costOf_13 ?_
  apply A.getfield f_md_52 d_md_costOf_14
  · first | exact hM.1 | exact hM.2.1 _ rfl
  · rfl
  refine A.imul d_md_costOf_17 ?_
  refine A.iret d_md_costOf_18 rfl ?_
  exact h
def hN (x : Int32) : Nat := x.toInt.toNat
theorem hN_nI {n : Nat} (h : n < 1000000) : hN (nI n) = n := by unfold hN; rw [ixn h]; omega
def bldM (M : MS) (p : Nat) : Nat → Int32
  | 0 => -1
  | k + 1 => if cstM M p ≤ M 1 (hN (M 8 (4 * p + k))) then nI k else bldM M p k
theorem bldM_cases (M : MS) (p : Nat) : ∀ n, bldM M p n = -1 ∨ ∃ b, b < n ∧ bldM M p n = nI b
  | 0 => Or.inl rfl
  | k + 1 => by
    unfold bldM
    by_cases h : cstM M p ≤ M 1 (hN (M 8 (4 * p + k)))
    · rw [if_pos h]; exact Or.inr ⟨k, by omega, rfl⟩
    · rw [if_neg h]
      rcases bldM_cases M p k with e | ⟨b, h1, h2⟩
      · exact Or.inl e
      · exact Or.inr ⟨b, by omega, h2⟩
theorem c_md_builder {p l : Nat} (hM : MH G M S C) (hw : WF M np) (hp : p < np) (hl : M 7 p = nI l) (hl3 : l ≤ 3) (h : Q (some (.int (bldM M p (l + 1)))) G) : A 1 M_md_builder 0 [some (.ref 100), some (.int (nI p)), none] [] G kc ks Q := by
  obtain ⟨hn, hn2, -, hh, -⟩ := hw
  have loop : ∀ k : Nat, k ≤ 4 → bldM M p k = bldM M p (l + 1) → A 1 M_md_builder 7 [some (.ref 100), some (.int (nI p)), some (.int (nI k - 1))] [] G kc ks Q := by
    intro k
    induction k with
    | zero =>
      intro h1 h2
      refine A.iload_k 2 rfl rfl d_md_builder_7 ?_
      refine A.if_lt 40 (by decide) d_md_builder_8 (fun c8 => ?_) (fun c8 => ?_)
      · refine A.iload_k 2 rfl rfl d_md_builder_40 ?_
        refine A.iret d_md_builder_41 rfl ?_
        rw [show nI 0 - 1 = (-1 : Int32) by decide]
        rw [← h2] at h
        exact h
      · exact absurd (by decide) c8
    | succ k ih =>
      intro h1 h2
      rw [nI_pred]
      obtain ⟨o, ho1, ho2⟩ := hh (4 * p + k)
      refine A.iload_k 2 rfl rfl d_md_builder_7 ?_
      refine A.if_lt 40 (by decide) d_md_builder_8 (fun c8 => ?_) (fun c8 => ?_)
      · exact absurd c8 (nI_pos (by omega))
      refine A.aload_k 0 rfl rfl rfl d_md_builder_11 ?_
      apply A.getfield f_md_9 d_md_builder_12
      · first | exact hM.1 | exact hM.2.1 _ rfl
      · rfl
      refine A.aload_k 0 rfl rfl rfl d_md_builder_15 ?_
      apply A.getfield f_md_28 d_md_builder_16
      · first | exact hM.1 | exact hM.2.1 _ rfl
      · rfl
      refine A.iconst (v := 4) rfl d_md_builder_19 ?_
      refine A.iload_k 1 rfl rfl d_md_builder_20 ?_
      refine A.imul d_md_builder_21 ?_
      refine A.iload_k 2 rfl rfl d_md_builder_22 ?_
      refine A.iadd d_md_builder_23 ?_
      apply A.iaload (j := 4 * p + k) d_md_builder_24
      · first | exact hM.1 | exact hM.2.1 _ rfl
      · exact ix4 (by omega) (by omega)
      · show 4 * p + k < 96; omega
      apply A.iaload (j := hN (M 8 (4 * p + k))) d_md_builder_25
      · first | exact hM.1 | exact hM.2.1 _ rfl
      · rw [ho2, hN_nI (by omega)]; exact ixn (by omega)
      · rw [ho2, hN_nI (by omega)]; exact ho1
      refine A.aload_k 0 rfl rfl rfl d_md_builder_26 ?_
      refine A.iload_k 1 rfl rfl d_md_builder_27 ?_
      refine A.callV1 s_md_118 ?_ (Nat.le_of_ble_eq_true rfl) (Nat.le_of_ble_eq_true rfl) (Nat.le_of_ble_eq_true rfl) d_md_builder_28 rfl (c_md_costOf hM (by omega) ?_)
      · apply Exists.intro
        first | exact hM.1 | exact hM.2.1 _ rfl
      dsimp only [psh]
      refine A.icmp_ge 40 (by decide) d_md_builder_31 (fun c31 => ?_) (fun c31 => ?_)
      · refine A.iload_k 2 rfl rfl d_md_builder_40 ?_
        refine A.iret d_md_builder_41 rfl ?_
        rw [← h2] at h
        unfold bldM at h
        rw [if_pos c31] at h
        exact h
      · refine A.iincm (n := 2) rfl (Nat.le_of_ble_eq_true rfl) d_md_builder_34 ?_
        dsimp only [List.set]
        refine A.goto 7 (by decide) d_md_builder_37 ?_
        refine ih (by omega) ?_
        unfold bldM at h2
        rw [if_neg c31] at h2
        exact h2
  refine A.aload_k 0 rfl rfl rfl d_md_builder_0 ?_
  apply A.getfield f_md_25 d_md_builder_1
  · first | exact hM.1 | exact hM.2.1 _ rfl
  · rfl
  refine A.iload_k 1 rfl rfl d_md_builder_4 ?_
  apply A.iaload (j := p) d_md_builder_5
  · first | exact hM.1 | exact hM.2.1 _ rfl
  · exact ixn (by omega)
  · show p < 24; omega
  rw [hl]
  refine A.istore_k 2 rfl (Nat.le_of_ble_eq_true rfl) rfl d_md_builder_6 ?_
  dsimp only [List.set]
  rw [← nI_pred l]
  exact loop (l + 1) (by omega) rfl
def befM (M : MS) (p : Nat) : Nat → Int32
  | 0 => -1
  | k + 1 => if M 3 k = M 3 p then nI k else befM M p k
theorem c_md_before {p : Nat} (hM : MH G M S C) (hp : p < 24) (h : Q (some (.int (befM M p p))) G) : A 0 M_md_before 0 [some (.ref 100), some (.int (nI p)), none, none] [] G kc ks Q := by
  have loop : ∀ (k i : Nat), i ≤ p → p < i + k → A 0 M_md_before 4 [some (.ref 100), some (.int (nI p)), some (.int (befM M p i)), some (.int (nI i))] [] G kc ks Q := by
    intro k
    induction k with
    | zero => intro i h1 h2; omega
    | succ k ih =>
      intro i h1 h2
      refine A.iload_k 3 rfl rfl d_md_before_4 ?_
      refine A.iload_k 1 rfl rfl d_md_before_5 ?_
      refine A.icmp_ge 32 (by decide) d_md_before_6 (fun c6 => ?_) (fun c6 => ?_)
      · refine A.iload_k 2 rfl rfl d_md_before_32 ?_
        refine A.iret d_md_before_33 rfl ?_
        have e : i = p := by
          have := (nI_leI (by omega) (by omega)).mp c6
          omega
        subst e
        exact h
      · have hlt : i < p := Nat.lt_of_not_le (fun z => c6 (nI_le z (by omega)))
        refine A.aload_k 0 rfl rfl rfl d_md_before_9 ?_
        apply A.getfield f_md_13 d_md_before_10
        · first | exact hM.1 | exact hM.2.1 _ rfl
        · rfl
        refine A.iload_k 3 rfl rfl d_md_before_13 ?_
        apply A.iaload (j := i) d_md_before_14
        · first | exact hM.1 | exact hM.2.1 _ rfl
        · exact ixn (by omega)
        · show i < 24; omega
        refine A.aload_k 0 rfl rfl rfl d_md_before_15 ?_
        apply A.getfield f_md_13 d_md_before_16
        · first | exact hM.1 | exact hM.2.1 _ rfl
        · rfl
        refine A.iload_k 1 rfl rfl d_md_before_19 ?_
        apply A.iaload (j := p) d_md_before_20
        · first | exact hM.1 | exact hM.2.1 _ rfl
        · exact ixn (by omega)
        · show p < 24; omega
        refine A.icmp_ne 26 (by decide) d_md_before_21 (fun c21 => ?_) (fun c21 => ?_)
        · refine A.iincp (n := 3) rfl (Nat.le_of_ble_eq_true rfl) d_md_before_26 ?_
          dsimp only [List.set]
          refine A.goto 4 (by decide) d_md_before_29 ?_
          rw [nI_1]
          have ih := ih (i + 1) (by omega) (by omega)
          unfold befM at ih
          first | rw [if_pos c21] at ih | rw [if_neg c21] at ih
          exact ih
        · refine A.iload_k 3 rfl rfl d_md_before_24 ?_
          refine A.istore_k 2 rfl (Nat.le_of_ble_eq_true rfl) rfl d_md_before_25 ?_
          dsimp only [List.set]
          refine A.iincp (n := 3) rfl (Nat.le_of_ble_eq_true rfl) d_md_before_26 ?_
          dsimp only [List.set]
          refine A.goto 4 (by decide) d_md_before_29 ?_
          rw [nI_1]
          have ih := ih (i + 1) (by omega) (by omega)
          unfold befM at ih
          first | rw [if_pos c21] at ih | rw [if_neg c21] at ih
          exact ih
  refine A.iconst (v := -1) rfl d_md_before_0 ?_
  refine A.istore_k 2 rfl (Nat.le_of_ble_eq_true rfl) rfl d_md_before_1 ?_
  dsimp only [List.set]
  refine A.iconst (v := 0) rfl d_md_before_2 ?_
  refine A.istore_k 3 rfl (Nat.le_of_ble_eq_true rfl) rfl d_md_before_3 ?_
  dsimp only [List.set]
  exact loop (p + 1) 0 (by omega) (by omega)
/-- from i on, k steps -/
def behM (M : MS) (p : Nat) : Nat → Nat → Int32
  | 0, _ => -1
  | k + 1, i => if M 3 i = M 3 p then nI i else behM M p k (i + 1)
theorem c_md_behind {p : Nat} (hM : MH G M S C) (hn : M 2 0 = nI np) (hn2 : np ≤ 24) (hp : p < np) (h : Q (some (.int (behM M p (np - (p + 1)) (p + 1)))) G) : A 0 M_md_behind 0 [some (.ref 100), some (.int (nI p)), none] [] G kc ks Q := by
  have loop : ∀ (k i : Nat), i + k = np → behM M p k i = behM M p (np - (p + 1)) (p + 1) → A 0 M_md_behind 4 [some (.ref 100), some (.int (nI p)), some (.int (nI i))] [] G kc ks Q := by
    intro k
    induction k with
    | zero =>
      intro i h1 h2
      refine A.iload_k 2 rfl rfl d_md_behind_4 ?_
      refine A.aload_k 0 rfl rfl rfl d_md_behind_5 ?_
      apply A.getfield f_md_84 d_md_behind_6
      · first | exact hM.1 | exact hM.2.1 _ rfl
      · rfl
      rw [hn]
      refine A.icmp_ge 35 (by decide) d_md_behind_9 (fun c9 => ?_) (fun c9 => ?_)
      · refine A.iconst (v := -1) rfl d_md_behind_35 ?_
        refine A.iret d_md_behind_36 rfl ?_
        rw [← h2] at h
        exact h
      · exact absurd (nI_le (by omega) (by omega)) c9
    | succ k ih =>
      intro i h1 h2
      refine A.iload_k 2 rfl rfl d_md_behind_4 ?_
      refine A.aload_k 0 rfl rfl rfl d_md_behind_5 ?_
      apply A.getfield f_md_84 d_md_behind_6
      · first | exact hM.1 | exact hM.2.1 _ rfl
      · rfl
      rw [hn]
      refine A.icmp_ge 35 (by decide) d_md_behind_9 (fun c9 => ?_) (fun c9 => ?_)
      · exact absurd c9 (nI_ge (by omega) (by omega))
      refine A.aload_k 0 rfl rfl rfl d_md_behind_12 ?_
      apply A.getfield f_md_13 d_md_behind_13
      · first | exact hM.1 | exact hM.2.1 _ rfl
      · rfl
      refine A.iload_k 2 rfl rfl d_md_behind_16 ?_
      apply A.iaload (j := i) d_md_behind_17
      · first | exact hM.1 | exact hM.2.1 _ rfl
      · exact ixn (by omega)
      · show i < 24; omega
      refine A.aload_k 0 rfl rfl rfl d_md_behind_18 ?_
      apply A.getfield f_md_13 d_md_behind_19
      · first | exact hM.1 | exact hM.2.1 _ rfl
      · rfl
      refine A.iload_k 1 rfl rfl d_md_behind_22 ?_
      apply A.iaload (j := p) d_md_behind_23
      · first | exact hM.1 | exact hM.2.1 _ rfl
      · exact ixn (by omega)
      · show p < 24; omega
      refine A.icmp_ne 29 (by decide) d_md_behind_24 (fun c24 => ?_) (fun c24 => ?_)
      · refine A.iincp (n := 2) rfl (Nat.le_of_ble_eq_true rfl) d_md_behind_29 ?_
        dsimp only [List.set]
        refine A.goto 4 (by decide) d_md_behind_32 ?_
        rw [nI_1]
        refine ih (i + 1) (by omega) ?_
        rw [show behM M p (k + 1) i = behM M p k (i + 1) from if_neg c24] at h2
        exact h2
      · refine A.iload_k 2 rfl rfl d_md_behind_27 ?_
        refine A.iret d_md_behind_28 rfl ?_
        rw [← h2, show behM M p (k + 1) i = nI i from if_pos c24] at h
        exact h
  refine A.iload_k 1 rfl rfl d_md_behind_0 ?_
  refine A.iconst (v := 1) rfl d_md_behind_1 ?_
  refine A.iadd d_md_behind_2 ?_
  refine A.istore_k 2 rfl (Nat.le_of_ble_eq_true rfl) rfl d_md_behind_3 ?_
  dsimp only [List.set]
  rw [nI_1]
  exact loop (np - (p + 1)) (p + 1) (by omega) rfl
end MODEL2
