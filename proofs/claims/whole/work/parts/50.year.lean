/-! the component: a year -/
section YEAR
variable {M M' S : MS} {G : AHp} {kc ks np : Nat} {Q : Option Value → AHp → Prop}
theorem BP.cg {p : Nat} (h : BP M p) (h1 : ∀ k, (3 ≤ k ∧ k ≤ 7 ∨ k = 13) → M' k p = M k p) (h2 : ∀ j, j ≤ 3 → M' 9 (4 * p + j) = M 9 (4 * p + j) ∧ M' 10 (4 * p + j) = M 10 (4 * p + j)) : BP M' p := by
  obtain ⟨a, b, c, d, e, f, g⟩ := h
  unfold BP
  rw [h1 3 (by omega), h1 4 (by omega), h1 5 (by omega), h1 6 (by omega), h1 7 (by omega), h1 13 (by omega)]
  refine ⟨a, b, c, d, e, f, fun l j l1 l2 l3 => ?_⟩
  obtain ⟨g1, g2⟩ := g l j l1 l2 l3
  rw [(h2 j (by omega)).1, (h2 j (by omega)).2, (h2 (j - 1) (by omega)).1]
  exact ⟨g1, g2⟩
theorem BP.ends {p q : Nat} {how : Int32} (hh : how = 2 ∨ how = 3) (hw : WF M np) (h : BP M q) : BP (mEnds M p how) q := by
  have e6 : mEnds M p how 6 = upd (M 6) p how := rfl
  have e7 : mEnds M p how 7 = upd (M 7) p 0 := rfl
  by_cases e : q = p
  · subst e
    obtain ⟨a, b, c, d, e, f, g⟩ := h
    refine ⟨a, b, c, ?_, fun _ => by rw [e7, upd_eq], f, fun l j l1 l2 l3 => ?_⟩
    · rw [e6, upd_eq]; rcases hh with h | h <;> subst h <;> decide
    · rw [e7, upd_eq] at l1
      have : l = 0 := nI_inj (b := 0) (by omega) (by omega) l1.symm
      subst this
      have : j = 0 := by omega
      subst this
      obtain ⟨l0, k1, k2⟩ := hw.2.2.1 q
      exact ⟨(g l0 0 k2 k1 (by omega)).1, fun z => absurd z (by omega)⟩
  · refine h.cg (fun k hk => ?_) (fun j hj => ⟨rfl, rfl⟩)
    by_cases c6 : k = 6
    · subst c6; rw [e6, upd_ne e]
    · by_cases c7 : k = 7
      · subst c7; rw [e7, upd_ne e]
      · rw [mEnds_o c6 c7]
theorem BP.frf (hw : WF M np) (h : ∀ p, p < np → BP M p) : ∀ n p, p < np → BP (frfM M n) p
  | 0, p, hp => h p hp
  | n + 1, p, hp => by
    rw [frfM_s]
    split
    · exact (BP.frf hw h n p hp).ends (Or.inl rfl) (hw.frf n)
    · exact BP.frf hw h n p hp
theorem oldM_hi (hw : WF M np) : ∀ n p, n ≤ p → oldM M n 7 p = M 7 p ∧ ∀ j, oldM M n 9 (4 * p + j) = M 9 (4 * p + j)
  | 0, p, _ => ⟨rfl, fun _ => rfl⟩
  | n + 1, p, hp => by
    obtain ⟨h1, h2⟩ := oldM_hi hw n p (by omega)
    obtain ⟨l, l1, l2⟩ := (hw.olds n).2.2.1 n
    have e9 : oldM M (n + 1) 9 = oldY (oldM M n 9) n l l := by
      show oldY (oldM M n 9) n (hN (oldM M n 7 n)) (hN (oldM M n 7 n)) = _
      rw [l2, hN_nI (by omega)]
    refine ⟨?_, fun j => ?_⟩
    · show upd (oldM M n 7) n _ p = _
      rw [upd_ne (by omega)]; exact h1
    · rw [e9, oldY_at _ _ _ _ (Nat.le_refl _), if_neg (by omega)]; exact h2 j
theorem oldM_congr (h7 : M' 7 = M 7) (h9 : M' 9 = M 9) : ∀ n, oldM M' n 7 = oldM M n 7 ∧ oldM M' n 9 = oldM M n 9
  | 0 => ⟨h7, h9⟩
  | n + 1 => by
    obtain ⟨a, b⟩ := oldM_congr h7 h9 n
    constructor
    · show upd (oldM M' n 7) n (oldT (oldM M' n 9) n (hN (oldM M' n 7 n)) (hN (oldM M' n 7 n))) = upd (oldM M n 7) n (oldT (oldM M n 9) n (hN (oldM M n 7 n)) (hN (oldM M n 7 n)))
      rw [a, b]
    · show oldY (oldM M' n 9) n (hN (oldM M' n 7 n)) (hN (oldM M' n 7 n)) = oldY (oldM M n 9) n (hN (oldM M n 7 n)) (hN (oldM M n 7 n))
      rw [a, b]
theorem c_af_year {nw : Nat} (hC : CH G M np) (hI : INV M np) (hw1 : M 19 0 = nI nw) (hw2 : nw ≤ 20) (h0 : M 0 0 = 60 → Q (some (.int (-1))) G) (h1 : ¬ M 0 0 = 60 → ∀ G', CH G' (mYear M np nw) np → FrC G G' → Q (some (.int (if M 18 0 ≤ M 0 0 then frfN M np else 0))) G') : A 4 M_af_year 0 [some (.ref 20), none, none] [] G kc ks Q := by
  have hw := hI.1
  have h24 := hw.2.1
  have hcp := cpN_le h24
  have hr := hC.root.1
  obtain ⟨⟨y, y1, y2, mo, m1, m2⟩, -, -, tx, t1, t2⟩ := hI.2.2.1
  have tail : ∀ (Ma : MS) (G0 : AHp) (lost : Int32), CH G0 Ma np → FrC G G0 → WF Ma np → (∀ p, p < np → BP Ma p) → (∀ k, k ≠ 6 → k ≠ 7 → Ma k = M k) → (∀ G', CH G' (va_up (oldM (wkM (va_up Ma 22 (fun _ => M 22 0 + M 21 0)) nw) np) 0 (fun _ => M 0 0 + 1)) np → FrC G G' → Q (some (.int lost)) G') → A 4 M_af_year 30 [some (.ref 20), none, none] [.int lost] G0 kc ks Q := by
    intro Ma G0 lost hC0 hF0 hwa hBa hMa hq
    have loop : ∀ (n i : Nat) (G1 : AHp), i ≤ np → np < i + n → CH G1 (oldM Ma i) np → FrC G G1 → A 4 M_af_year 33 [some (.ref 20), some (.int lost), some (.int (nI i))] [] G1 kc ks Q := by
      intro n
      induction n with
      | zero => intro i G1 z1 z2; omega
      | succ n ih =>
        intro i G1 z1 z2 hC1 hF1
        have hwi : WF (oldM Ma i) np := hwa.olds i
        have hr1 := hC1.root.1
        obtain ⟨m, hl1⟩ := hC1.list.1
        obtain ⟨c, nw', b1, ⟨u, b2, b3⟩, b4⟩ := hC1.ct
        have e19 : oldM Ma i 19 0 = nI nw := by rw [oldM_k (by decide) (by decide), hMa 19 (by decide) (by decide)]; exact hw1
        obtain rfl : nw' = nw := nI_inj (by have := b4.2.1; omega) (by omega) (b4.1.symm.trans e19)
        have e20 : oldM Ma i 20 = M 20 := by rw [oldM_k (by decide) (by decide), hMa 20 (by decide) (by decide)]
        have e21 : oldM Ma i 21 0 = nI tx := by rw [oldM_k (by decide) (by decide), hMa 21 (by decide) (by decide)]; exact t2
        have e22 : oldM Ma i 22 0 = nI mo := by rw [oldM_k (by decide) (by decide), hMa 22 (by decide) (by decide)]; exact m2
        have e0 : oldM Ma i 0 = M 0 := by rw [oldM_k (by decide) (by decide), hMa 0 (by decide) (by decide)]
        unfold CtF at b4
        rw [e19, e21, e22] at b1
        rw [e20] at b3 b4
        obtain ⟨-, b41, b42, b43, b44⟩ := b4
        have W20 : va_up Ma 22 (fun _ => M 22 0 + M 21 0) 20 = M 20 := hMa 20 (by decide) (by decide)
        refine A.iload_k 2 rfl rfl d_af_year_33 ?_
        refine A.aload_k 0 rfl rfl rfl d_af_year_34 ?_
        apply A.getfield f_af_16 d_af_year_35
        · repeat first | assumption | exact up_s | refine up_e (by decide) ?_
        · rfl
        refine A.callV0 s_af_89 ?_ (Nat.le_of_ble_eq_true rfl) (Nat.le_of_ble_eq_true rfl) (Nat.le_of_ble_eq_true rfl) d_af_year_38 rfl (c_al_size (by repeat first | assumption | exact up_s | refine up_e (by decide) ?_) ?_)
        · apply Exists.intro
          repeat first | assumption | exact up_s | refine up_e (by decide) ?_
        dsimp only [psh]
        refine A.icmp_ge 67 (by decide) d_af_year_41 (fun c41 => ?_) (fun c41 => ?_)
        rotate_left
        · have hlt : i < np := Nat.lt_of_not_le (fun z => c41 (nI_le z (by omega)))
          obtain ⟨f, f1, f2⟩ := hC1.list.2.1 (by omega)
          have hpl := (hC1.pl hlt).1
          obtain ⟨P, Y, R, a1, a2, a3, a4, a5⟩ := (hC1.pl hlt).2.1
          obtain ⟨l, l1, l2⟩ := hwi.2.2.1 i
          refine A.aload_k 0 rfl rfl rfl d_af_year_44 ?_
          apply A.getfield f_af_16 d_af_year_45
          · repeat first | assumption | exact up_s | refine up_e (by decide) ?_
          · rfl
          refine A.iload_k 2 rfl rfl d_af_year_48 ?_
          refine A.callV1 s_af_179 ?_ (Nat.le_of_ble_eq_true rfl) (Nat.le_of_ble_eq_true rfl) (Nat.le_of_ble_eq_true rfl) d_af_year_49 rfl (c_al_get hl1 f1 hlt (by omega) (f2 i hlt) ?_)
          · apply Exists.intro
            repeat first | assumption | exact up_s | refine up_e (by decide) ?_
          dsimp only [psh]
          refine A.cast1 (ci := 5) d_af_year_52 cl_af_93 rfl ?_ ?_
          · apply Exists.intro
            repeat first | assumption | exact up_s | refine up_e (by decide) ?_
          apply A.getfield f_af_113 d_af_year_55
          · repeat first | assumption | exact up_s | refine up_e (by decide) ?_
          · rfl
          refine A.callV0 s_af_190 ?_ (Nat.le_of_ble_eq_true rfl) (Nat.le_of_ble_eq_true rfl) (Nat.le_of_ble_eq_true rfl) d_af_year_58 rfl (c_ch_passYear a1 a3 (hwi.zle i) (by omega) ?_)
          · apply Exists.intro
            repeat first | assumption | exact up_s | refine up_e (by decide) ?_
          dsimp only [psh]
          refine A.iincp (n := 2) rfl (Nat.le_of_ble_eq_true rfl) d_af_year_61 ?_
          dsimp only [List.set]
          refine A.goto 33 (by decide) d_af_year_64 ?_
          rw [nI_1]
          have hb : BP (oldM Ma i) i := (hBa i hlt).cg (fun k hk => by
              by_cases c7 : k = 7
              · subst c7; exact (oldM_hi hwa i i (Nat.le_refl _)).1
              · rw [oldM_k (by omega) c7]) (fun j hj => ⟨(oldM_hi hwa i i (Nat.le_refl _)).2 j, by rw [oldM_k (by decide) (by decide)]⟩)
          refine ih (i + 1) _ (by omega) (by omega) ?_ ((hF1.up (by omega) (by omega)).up (by omega) (by omega))
          show CH _ (mOld (oldM Ma i) i (hN (oldM Ma i 7 i))) np
          rw [l2, hN_nI (by omega)]
          exact CH.older hC1 hwi hlt hb l2 l1 a1 a2 a4 a5
        obtain rfl : i = np := by
          have := (nI_leI (by omega) (by omega)).mp c41
          omega
        refine A.aload_k 0 rfl rfl rfl d_af_year_67 ?_
        apply A.getfield f_af_43 d_af_year_68
        · repeat first | assumption | exact up_s | refine up_e (by decide) ?_
        · rfl
        refine A.callV0 s_af_193 ?_ (Nat.le_of_ble_eq_true rfl) (Nat.le_of_ble_eq_true rfl) (Nat.le_of_ble_eq_true rfl) d_af_year_71 rfl (c_ct_endYear (M := va_up Ma 22 (fun _ => M 22 0 + M 21 0)) b1 b2 (fun w hc hw => by rw [W20]; exact b3 w hc hw) (by rw [vs, m2, t2, nI_add]) (by omega) (by rw [W20]; exact ⟨b41, b42, b43, b44⟩) (fun c' u' v1 v2 v3 => ?_))
        · apply Exists.intro
          repeat first | assumption | exact up_s | refine up_e (by decide) ?_
        dsimp only [psh]
        refine A.aload_k 0 rfl rfl rfl d_af_year_74 ?_
        refine A.dup rfl d_af_year_75 ?_
        apply A.getfield f_af_54 d_af_year_76
        · repeat first | assumption | exact up_s | refine up_e (by decide) ?_
        · rfl
        refine A.iconst (v := 1) rfl d_af_year_79 ?_
        refine A.iadd d_af_year_80 ?_
        apply A.putfield p_af_54 d_af_year_81
        · repeat first | assumption | exact up_s | refine up_e (by decide) ?_
        · exact (Nat.le_of_ble_eq_true rfl)
        · rfl
        dsimp only [List.set]
        refine A.iload_k 1 rfl rfl d_af_year_84 ?_
        refine A.iret d_af_year_85 rfl ?_
        skip
        have ek : ∀ k, (k < 19 ∨ 22 < k) → oldM (wkM (va_up Ma 22 (fun _ => M 22 0 + M 21 0)) nw') i k = oldM Ma i k := by
          intro k hk
          have hx := oldM_congr (M := Ma) (M' := wkM (va_up Ma 22 (fun _ => M 22 0 + M 21 0)) nw') (by rw [wkM_k (by decide) (by decide), vn (by decide)]) (by rw [wkM_k (by decide) (by decide), vn (by decide)]) i
          by_cases c7 : k = 7
          · subst c7; exact hx.1
          · by_cases c9 : k = 9
            · subst c9; exact hx.2
            · rw [oldM_k c9 c7, oldM_k c9 c7, wkM_k (by omega) (by omega), vn (by omega)]
        have eo : ∀ k, (19 ≤ k ∧ k ≤ 22) → oldM (wkM (va_up Ma 22 (fun _ => M 22 0 + M 21 0)) nw') i k = wkM (va_up Ma 22 (fun _ => M 22 0 + M 21 0)) nw' k := fun k hk => oldM_k (by omega) (by omega) i
        have w19 : wkM (va_up Ma 22 (fun _ => M 22 0 + M 21 0)) nw' 19 0 = nI nw' := by rw [wkM_k (by decide) (by decide), vn (by decide), hMa 19 (by decide) (by decide)]; exact hw1
        have w21 : wkM (va_up Ma 22 (fun _ => M 22 0 + M 21 0)) nw' 21 0 = nI tx := by rw [wkM_k (by decide) (by decide), vn (by decide), hMa 21 (by decide) (by decide)]; exact t2
        have hC2 := CH.chest (M' := oldM (wkM (va_up Ma 22 (fun _ => M 22 0 + M 21 0)) nw') i) (G' := up (up G1 35 (aI 20 u')) 26 (oB 4 [.ref 35, .int (nI nw'), .int (nI c'), .int (wkM (va_up Ma 22 (fun _ => M 22 0 + M 21 0)) nw' 22 0), .int (nI tx)])) hC1 hwi (fun a z1 z2 => (up_n z1).trans (up_n z2)) ek ⟨c', nw', by rw [eo 19 (by omega), eo 21 (by omega), eo 22 (by omega), w19, w21]; exact up_s, ⟨u', up_e (by decide) up_s, fun w hc hw => by rw [eo 20 (by omega)]; exact v1 w hc hw⟩, by unfold CtF; rw [eo 19 (by omega), eo 20 (by omega)]; exact ⟨w19, v2.1, v2.2.1, v2.2.2.1, v2.2.2.2⟩⟩
        have e00 : oldM Ma i 0 0 = M 0 0 := by rw [e0]
        have hC3 := hC2.rootf ((hwa.up _ (by decide) (by decide) (by decide) (by decide) (by decide)).wk nw' |>.olds i) 0 (by decide) (M 0 0 + 1)
        have hq := hq _ hC3 (((hF1.up (by decide) (by decide)).up (by decide) (by decide)).up (by decide) (by decide))
        have er : rtO (va_up (oldM (wkM (va_up Ma 22 (fun _ => M 22 0 + M 21 0)) nw') i) 0 (fun _ => M 0 0 + 1)) = oB 0 [.ref 21, .ref 22, .ref 23, .ref 24, .ref 25, .ref 26, .ref 27, .int (oldM Ma i 0 0 + 1), .int (oldM Ma i 16 0), .int (oldM Ma i 17 0), .int (oldM Ma i 18 0), .int (oldM Ma i 23 0)] := by
          unfold rtO
          rw [vs, vn (by decide), vn (by decide), vn (by decide), vn (by decide), ek 16 (by decide), ek 17 (by decide), ek 18 (by decide), ek 23 (by decide), e00]
        rw [er] at hq
        exact hq
    refine A.istore_k 1 rfl (Nat.le_of_ble_eq_true rfl) rfl d_af_year_30 ?_
    dsimp only [List.set]
    refine A.iconst (v := 0) rfl d_af_year_31 ?_
    refine A.istore_k 2 rfl (Nat.le_of_ble_eq_true rfl) rfl d_af_year_32 ?_
    dsimp only [List.set]
    exact loop (np + 1) 0 G0 (by omega) (by omega) hC0 hF0
  refine A.aload_k 0 rfl rfl rfl d_af_year_0 ?_
  apply A.getfield f_af_54 d_af_year_1
  · repeat first | assumption | exact up_s | refine up_e (by first | decide | omega) ?_
  · rfl
  refine A.bipush (v := 60) rfl d_af_year_4 ?_
  refine A.icmp_lt 11 (by decide) d_af_year_6 (fun c6 => ?_) (fun c6 => ?_)
  · have n60 : ¬ M 0 0 = 60 := fun z => by rw [z] at c6; exact absurd c6 (by decide)
    have h1 := h1 n60
    unfold mYear at h1
    refine A.aload_k 0 rfl rfl rfl d_af_year_11 ?_
    apply A.getfield f_af_54 d_af_year_12
    · repeat first | assumption | exact up_s | refine up_e (by first | decide | omega) ?_
    · rfl
    refine A.aload_k 0 rfl rfl rfl d_af_year_15 ?_
    apply A.getfield f_af_64 d_af_year_16
    · repeat first | assumption | exact up_s | refine up_e (by first | decide | omega) ?_
    · rfl
    refine A.icmp_lt 29 (by decide) d_af_year_19 (fun c19 => ?_) (fun c19 => ?_)
    · refine A.iconst (v := 0) rfl d_af_year_29 ?_
      first | (rw [if_neg (Int32.not_le.mpr c19), if_neg (Int32.not_le.mpr c19)] at h1; exact tail M G 0 hC FrC.rf hw (fun p hp => hI.2.2.2.1 p hp) (fun k a b => rfl) h1) | (rw [if_pos (Int32.not_lt.mp c19), if_pos (Int32.not_lt.mp c19)] at h1; exact tail (frfM M np) G1 (frfN M np) hC1 hF1 (hw.frf np) (fun p hp => BP.frf hw hI.2.2.2.1 np p hp) (fun k a b => frfM_k a b np) h1)
    · refine A.aload_k 0 rfl rfl rfl d_af_year_22 ?_
      refine A.callV0 s_af_187 ?_ (Nat.le_of_ble_eq_true rfl) (Nat.le_of_ble_eq_true rfl) (Nat.le_of_ble_eq_true rfl) d_af_year_23 rfl (c_af_forfeit hC hw (fun G1 hC1 hF1 => ?_))
      · apply Exists.intro
        repeat first | assumption | exact up_s | refine up_e (by first | decide | omega) ?_
      dsimp only [psh]
      refine A.goto 30 (by decide) d_af_year_26 ?_
      first | (rw [if_neg (Int32.not_le.mpr c19), if_neg (Int32.not_le.mpr c19)] at h1; exact tail M G 0 hC FrC.rf hw (fun p hp => hI.2.2.2.1 p hp) (fun k a b => rfl) h1) | (rw [if_pos (Int32.not_lt.mp c19), if_pos (Int32.not_lt.mp c19)] at h1; exact tail (frfM M np) G1 (frfN M np) hC1 hF1 (hw.frf np) (fun p hp => BP.frf hw hI.2.2.2.1 np p hp) (fun k a b => frfM_k a b np) h1)
  · refine A.iconst (v := -1) rfl d_af_year_9 ?_
    refine A.iret d_af_year_10 rfl ?_
    refine h0 ?_
    rw [y2] at c6 ⊢
    have : ¬ y < 60 := fun z => c6 ((nI_ltI (b := 60) (by omega) (by omega)).mpr z)
    obtain rfl : y = 60 := by omega
    rfl
end YEAR
