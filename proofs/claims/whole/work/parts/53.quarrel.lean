/-! the component: quarrel, border -/
section QUARREL
variable {M S : MS} {G : AHp} {kc ks np : Nat} {Q : Option Value → AHp → Prop}
theorem okT_nat {n : Nat} {t : Int32} (hn : n ≤ 8) (h : okT n t) : ∃ τ, t = nI τ ∧ 2 ≤ τ ∧ n ≤ τ ∧ τ ≤ 300 ∧ 1 ≤ n := by
  obtain ⟨h1, h2, h3⟩ := h
  have hm : (if nI n ≤ 2 then (2 : Int32) else nI n) = nI (max 2 n) := by
    by_cases c : n ≤ 2
    · rw [if_pos (show nI n ≤ 2 from nI_le (b := 2) c (by omega)), Nat.max_eq_left c]; rfl
    · rw [if_neg (show ¬ nI n ≤ 2 from fun z => c ((nI_leI (b := 2) (by omega) (by omega)).mp z)), Nat.max_eq_right (by omega)]
  rw [hm] at h2
  have hx := Nat.max_le (a := 2) (b := n) (c := 8) |>.mpr ⟨by omega, hn⟩
  obtain ⟨τ, t1, t2⟩ := in_lit (n := 300) (by decide) (by omega) (Int32.le_trans (nI_pos' (n := max 2 n) (by omega)) h2) h3
  rw [t2] at h2
  have := (nI_leI (by omega) (by omega)).mp h2
  have a := Nat.le_max_left 2 n
  have b := Nat.le_max_right 2 n
  exact ⟨τ, t2, by omega, by omega, t1, by omega⟩
theorem ddM_le (hws : WS M np) {q : Nat} : ∀ k, k < (strL M (nI q) np).length → ddM M (nI q) np k ≤ 60 := by
  intro k hk
  have hmem : (strL M (nI q) np).getD k 0 ∈ strL M (nI q) np := by
    rw [List.getD_eq_getElem?_getD, List.getElem?_eq_getElem hk]
    exact List.getElem_mem hk
  obtain ⟨fr, r1, r2⟩ := hws.1 _ (strL_lt M (nI q) np _ hmem).1
  unfold ddM
  rw [r2, hN_nI (by omega)]
  exact r1
theorem c_sr_canMeasure {q : Nat} {t : Int32} (hC : CH G M np) (hws : WS M np) (hq : q < 6) (h1 : okT (strL M (nI q) np).length t → Q (some (.int 1)) G) (h0 : ¬ okT (strL M (nI q) np).length t → Q (some (.int 0)) G) : A 1 M_sr_canMeasure 0 [some (.ref (40 + q)), some (.int t)] [] G kc ks Q := by
  have h8 := hws.2.2 q hq
  obtain ⟨s1, s2, ⟨m, s3⟩, s4, s5⟩ := hC.str.2 q hq
  have hm : (if (2 : Int32) < nI (strL M (nI q) np).length then nI (strL M (nI q) np).length else 2) = if nI (strL M (nI q) np).length ≤ 2 then 2 else nI (strL M (nI q) np).length := by
    by_cases c : nI (strL M (nI q) np).length ≤ 2
    · rw [if_pos c, if_neg (Int32.not_lt.mpr c)]
    · rw [if_neg c, if_pos (Int32.not_le.mp c)]
  refine A.aload_k 0 rfl rfl rfl d_sr_canMeasure_0 ?_
  apply A.getfield f_sr_12 d_sr_canMeasure_1
  · repeat first | assumption | exact up_s | refine up_e (by first | decide | omega) ?_
  · rfl
  refine A.callV0 s_sr_26 ?_ (Nat.le_of_ble_eq_true rfl) (Nat.le_of_ble_eq_true rfl) (Nat.le_of_ble_eq_true rfl) d_sr_canMeasure_4 rfl (c_al_isEmpty s3 (fun z1 => ?_) (fun z0 => ?_))
  · apply Exists.intro
    repeat first | assumption | exact up_s | refine up_e (by first | decide | omega) ?_
  · dsimp only [psh]
    refine A.if_ne1 35 (by decide) d_sr_canMeasure_7 ?_
    refine A.iconst (v := 0) rfl d_sr_canMeasure_35 ?_
    refine A.zret d_sr_canMeasure_36 rfl (Or.inl rfl) ?_
    first | exact h1 ⟨fun z => z0 (by rw [z]; rfl), i1, i2⟩ | exact h0 (fun z => z.1 (nI_inj (b := 0) (by omega) (by omega) z1)) | exact h0 (fun z => i3 z.2)
  · dsimp only [psh]
    refine A.if_ne0 d_sr_canMeasure_7 (tgt := 35) (by decide) ?_
    refine A.iload_k 1 rfl rfl d_sr_canMeasure_10 ?_
    refine A.iconst (v := 2) rfl d_sr_canMeasure_11 ?_
    refine A.aload_k 0 rfl rfl rfl d_sr_canMeasure_12 ?_
    apply A.getfield f_sr_12 d_sr_canMeasure_13
    · repeat first | assumption | exact up_s | refine up_e (by first | decide | omega) ?_
    · rfl
    refine A.callV0 s_sr_22 ?_ (Nat.le_of_ble_eq_true rfl) (Nat.le_of_ble_eq_true rfl) (Nat.le_of_ble_eq_true rfl) d_sr_canMeasure_16 rfl (c_al_size (by repeat first | assumption | exact up_s | refine up_e (by first | decide | omega) ?_) ?_)
    · apply Exists.intro
      repeat first | assumption | exact up_s | refine up_e (by first | decide | omega) ?_
    dsimp only [psh]
    refine A.max d_sr_canMeasure_19 s_sr_52 (Nat.le_of_ble_eq_true rfl) (Nat.le_of_ble_eq_true rfl) ?_
    rw [hm]
    refine A.sipush (v := 300) rfl d_sr_canMeasure_22 ?_
    refine A.callS3 s_sr_58 (Nat.le_of_ble_eq_true rfl) (Nat.le_of_ble_eq_true rfl) (Nat.le_of_ble_eq_true rfl) d_sr_canMeasure_25 rfl (c_af_within (fun i1 i2 => ?_) (fun i3 => ?_))
    · dsimp only [psh]
      refine A.if_eq1 d_sr_canMeasure_28 (tgt := 35) (by decide) ?_
      refine A.iconst (v := 1) rfl d_sr_canMeasure_31 ?_
      refine A.goto 36 (by decide) d_sr_canMeasure_32 ?_
      refine A.zret d_sr_canMeasure_36 rfl (Or.inr rfl) ?_
      first | exact h1 ⟨fun z => z0 (by rw [z]; rfl), i1, i2⟩ | exact h0 (fun z => z.1 (nI_inj (b := 0) (by omega) (by omega) z1)) | exact h0 (fun z => i3 z.2)
    · dsimp only [psh]
      refine A.if_eq0 35 (by decide) d_sr_canMeasure_28 ?_
      refine A.iconst (v := 0) rfl d_sr_canMeasure_35 ?_
      refine A.zret d_sr_canMeasure_36 rfl (Or.inl rfl) ?_
      first | exact h1 ⟨fun z => z0 (by rw [z]; rfl), i1, i2⟩ | exact h0 (fun z => z.1 (nI_inj (b := 0) (by omega) (by omega) z1)) | exact h0 (fun z => i3 z.2)
theorem skM_le (hws : WS M np) {q n : Nat} : ∀ j z, j < n → skM M q j = some z → z ≤ 300 := fun j z _ e => by
  rcases skM_ok hws q j with ⟨-, e2⟩ | ⟨z', z1, -, z3⟩
  · rw [e2] at e; cases e
  · rw [z3] at e; cases e; exact z1
theorem c_sv_least {q τ n : Nat} (hC : CH G M np) (hws : WS M np) (hq : q < 6) (hn : (strL M (nI q) np).length = n) (hn8 : n ≤ 8) (hn1 : 1 ≤ n) (hnt : n ≤ τ) (ht : τ ≤ 300) (hdd : ∀ k, k < n → ddM M (nI q) np k ≤ 60) (hR : ∀ i, i < n → ∃ g, G (60 + i) = some (aI 301 g) ∧ ∀ e, rng n τ i e → g e = nI (RR n τ (ddM M (nI q) np) (skM M q) i e)) (h : Q (some (.int (nI (DN n τ (ddM M (nI q) np) (skM M q) n 0)))) G) : A 5 M_sv_leastQuarrel 0 [some (.ref 27), some (.ref (40 + q)), some (.int (nI τ))] [] G kc ks Q := by
  have hsk := skM_le (n := n) (q := q) hws
  obtain ⟨v1, ⟨f, v2, v3⟩, v4⟩ := hC.sv
  obtain ⟨g, r1, r2⟩ := hR 0 (by omega)
  have hs1 := (hC.str.2 q hq).1
  have hF := aF_F hn8 ht hnt hdd hsk (i := 0) (x := 0) (by omega) (by omega)
  have hD := aF_DN hn8 ht hnt hdd hsk (i := 0) (x := 0) (by omega) (by omega)
  rw [Nat.sub_zero, Nat.zero_add] at hD
  have hd0 := hdd 0 (by omega)
  have u1 := hF.2.1
  have hA : rng n τ 0 (aF n τ (ddM M (nI q) np) (skM M q) 0 0) := by
    refine ⟨Nat.le_trans (by split <;> omega) hF.1, by omega, fun z => ?_⟩
    unfold aF; rw [if_pos z]
  rw [hD] at h
  refine A.aload_k 0 rfl rfl rfl d_sv_leastQuarrel_0 ?_
  apply A.getfield f_sv_11 d_sv_leastQuarrel_1
  · repeat first | assumption | exact up_s | refine up_e (by first | decide | omega) ?_
  · rfl
  refine A.iconst (v := 0) rfl d_sv_leastQuarrel_4 ?_
  apply A.aaload2 (j := 0) d_sv_leastQuarrel_5
  · repeat first | assumption | exact up_s | refine up_e (by first | decide | omega) ?_
  · rfl
  · omega
  rw [v3 0 (by omega)]
  refine A.aload_k 1 rfl rfl rfl d_sv_leastQuarrel_6 ?_
  refine A.iconst (v := 0) rfl d_sv_leastQuarrel_7 ?_
  refine A.callV1 s_sv_36 ?_ (Nat.le_of_ble_eq_true rfl) (Nat.le_of_ble_eq_true rfl) (Nat.le_of_ble_eq_true rfl) d_sv_leastQuarrel_8 rfl (c_sr_frontOf (k := 0) hC hws hq (by omega) ?_)
  · apply Exists.intro
    repeat first | assumption | exact up_s | refine up_e (by first | decide | omega) ?_
  dsimp only [psh]
  refine A.aload_k 0 rfl rfl rfl d_sv_leastQuarrel_11 ?_
  refine A.aload_k 1 rfl rfl rfl d_sv_leastQuarrel_12 ?_
  refine A.iload_k 2 rfl rfl d_sv_leastQuarrel_13 ?_
  refine A.iconst (v := 0) rfl d_sv_leastQuarrel_14 ?_
  refine A.iconst (v := 0) rfl d_sv_leastQuarrel_15 ?_
  refine A.callV4 s_sv_60 ?_ (Nat.le_of_ble_eq_true rfl) (Nat.le_of_ble_eq_true rfl) (Nat.le_of_ble_eq_true rfl) d_sv_leastQuarrel_16 rfl (c_sv_endOf (i := 0) (x := 0) hC hws hq hn hn8 hnt ht hdd hR (by omega) (by omega) (by omega) ?_)
  · apply Exists.intro
    repeat first | assumption | exact up_s | refine up_e (by first | decide | omega) ?_
  dsimp only [psh]
  refine A.callS3 s_sv_53 (Nat.le_of_ble_eq_true rfl) (Nat.le_of_ble_eq_true rfl) (Nat.le_of_ble_eq_true rfl) d_sv_leastQuarrel_19 rfl (c_sv_quarrelAt r1 (by omega) (by omega) (r2 _ hA) ?_)
  dsimp only [psh]
  refine A.iret d_sv_leastQuarrel_22 rfl ?_
  exact h
theorem c_sv_border {q τ n j : Nat} (hC : CH G M np) (hws : WS M np) (hq : q < 6) (hn : (strL M (nI q) np).length = n) (hn8 : n ≤ 8) (hnt : n ≤ τ) (ht : τ ≤ 300) (hdd : ∀ k, k < n → ddM M (nI q) np k ≤ 60) (hR : ∀ i, i < n → ∃ g, G (60 + i) = some (aI 301 g) ∧ ∀ e, rng n τ i e → g e = nI (RR n τ (ddM M (nI q) np) (skM M q) i e)) (hj : j + 2 ≤ n) (h : Q (some (.int (nI (bdN n τ (ddM M (nI q) np) (skM M q) (j + 1))))) G) : A 5 M_sv_borderBehind 0 [some (.ref 27), some (.ref (40 + q)), some (.int (nI τ)), some (.int (nI j)), none, none] [] G kc ks Q := by
  have hsk := skM_le (n := n) (q := q) hws
  have hv1 := hC.sv.1
  have loop : ∀ (k i : Nat), i + k = j + 1 → i ≤ bdN n τ (ddM M (nI q) np) (skM M q) i → A 5 M_sv_borderBehind 6 [some (.ref 27), some (.ref (40 + q)), some (.int (nI τ)), some (.int (nI j)), some (.int (nI (bdN n τ (ddM M (nI q) np) (skM M q) i))), some (.int (nI i))] [] G kc ks Q := by
    intro k
    induction k with
    | zero =>
      intro i h1 h2
      obtain rfl : i = j + 1 := by omega
      refine A.iload rfl d_sv_borderBehind_6 ?_
      refine A.iload_k 3 rfl rfl d_sv_borderBehind_8 ?_
      refine A.icmp_gt 37 (by decide) d_sv_borderBehind_9 (fun c9 => ?_) (fun c9 => ?_)
      · refine A.iload rfl d_sv_borderBehind_37 ?_
        refine A.iret d_sv_borderBehind_39 rfl ?_
        exact h
      · exact absurd (nI_lt (by omega) (by omega)) c9
    | succ k ih =>
      intro i h1 h2
      obtain ⟨b1, b2⟩ := bdN_ok hn8 ht hnt (by omega) hdd hsk i (by omega)
      have e := bdN_aF hn8 ht hnt (by omega) hdd hsk (i := i) (by omega)
      have hF := aF_F hn8 ht hnt hdd hsk (i := i) (by omega) b2
      have hle : i + 1 ≤ aF n τ (ddM M (nI q) np) (skM M q) i (bdN n τ (ddM M (nI q) np) (skM M q) i) := Nat.le_trans (by split <;> omega) hF.1
      have ih := ih (i + 1) (by omega)
      rw [e] at ih
      refine A.iload rfl d_sv_borderBehind_6 ?_
      refine A.iload_k 3 rfl rfl d_sv_borderBehind_8 ?_
      refine A.icmp_gt 37 (by decide) d_sv_borderBehind_9 (fun c9 => ?_) (fun c9 => ?_)
      · exact absurd ((nI_ltI (by omega) (by omega)).mp c9) (by omega)
      refine A.iload rfl d_sv_borderBehind_12 ?_
      refine A.bipush (v := 8) rfl d_sv_borderBehind_14 ?_
      refine A.icmp_ge 37 (by decide) d_sv_borderBehind_16 (fun c16 => ?_) (fun c16 => ?_)
      · exact absurd ((nI_leI (a := 8) (by omega) (by omega)).mp c16) (by omega)
      refine A.aload_k 0 rfl rfl rfl d_sv_borderBehind_19 ?_
      refine A.aload_k 1 rfl rfl rfl d_sv_borderBehind_20 ?_
      refine A.iload_k 2 rfl rfl d_sv_borderBehind_21 ?_
      refine A.iload rfl d_sv_borderBehind_22 ?_
      refine A.iload rfl d_sv_borderBehind_24 ?_
      refine A.callV4 s_sv_60 ?_ (Nat.le_of_ble_eq_true rfl) (Nat.le_of_ble_eq_true rfl) (Nat.le_of_ble_eq_true rfl) d_sv_borderBehind_26 rfl (c_sv_endOf hC hws hq hn hn8 hnt ht hdd hR (by omega) b2 h2 ?_)
      · apply Exists.intro
        repeat first | assumption | exact up_s | refine up_e (by first | decide | omega) ?_
      dsimp only [psh]
      refine A.istore (Nat.le_of_ble_eq_true rfl) rfl d_sv_borderBehind_29 ?_
      dsimp only [List.set]
      refine A.iincp (n := 5) rfl (Nat.le_of_ble_eq_true rfl) d_sv_borderBehind_31 ?_
      dsimp only [List.set]
      refine A.goto 6 (by decide) d_sv_borderBehind_34 ?_
      rw [nI_1]
      exact ih hle
  refine A.iconst (v := 0) rfl d_sv_borderBehind_0 ?_
  refine A.istore (Nat.le_of_ble_eq_true rfl) rfl d_sv_borderBehind_1 ?_
  dsimp only [List.set]
  refine A.iconst (v := 0) rfl d_sv_borderBehind_3 ?_
  refine A.istore (Nat.le_of_ble_eq_true rfl) rfl d_sv_borderBehind_4 ?_
  dsimp only [List.set]
  exact loop (j + 1) 0 (by omega) (by omega)
theorem c_af_quarrel {x t : Int32} (hC : CH G M np) (hw : WF M np) (hws : WS M np) (h0 : (∀ q, q < 6 → x = nI q → ¬ okT (strL M (nI q) np).length t) → Q (some (.int (-1))) G)
    (h1 : ∀ q τ, q < 6 → x = nI q → t = nI τ → τ ≤ 300 → okT (strL M (nI q) np).length t → ∀ G', CH G' M np → FrC G G' → Q (some (.int (nI (DN (strL M (nI q) np).length τ (ddM M (nI q) np) (skM M q) (strL M (nI q) np).length 0)))) G') : A 6 M_af_quarrel 0 [some (.ref 20), some (.int x), some (.int t), none] [] G kc ks Q := by
  have hr := hC.root.1
  have hs1 := fun q hq => (hC.str.2 q hq).1
  have hv1 := hC.sv.1
  refine A.aload_k 0 rfl rfl rfl d_af_quarrel_0 ?_
  refine A.iload_k 1 rfl rfl d_af_quarrel_1 ?_
  refine A.callV1 s_af_85 ?_ (Nat.le_of_ble_eq_true rfl) (Nat.le_of_ble_eq_true rfl) (Nat.le_of_ble_eq_true rfl) d_af_quarrel_2 rfl (c_af_streetAt hC (fun s hs hx => ?_) (fun q0 => ?_))
  · apply Exists.intro
    repeat first | assumption | exact up_s | refine up_e (by first | decide | omega) ?_
  · dsimp only [psh]
    refine A.astore_k 3 rfl (Nat.le_of_ble_eq_true rfl) rfl rfl d_af_quarrel_5 ?_
    dsimp only [List.set]
    refine A.aload_k 3 rfl rfl rfl d_af_quarrel_6 ?_
    refine A.ifnull_r d_af_quarrel_7 ?_
    have hss := hs1 s hs
    refine A.aload_k 3 rfl rfl rfl d_af_quarrel_10 ?_
    refine A.iload_k 2 rfl rfl d_af_quarrel_11 ?_
    refine A.callV1 s_af_217 ?_ (Nat.le_of_ble_eq_true rfl) (Nat.le_of_ble_eq_true rfl) (Nat.le_of_ble_eq_true rfl) d_af_quarrel_12 rfl (c_sr_canMeasure hC hws hs (fun t1 => ?_) (fun t0 => ?_))
    · apply Exists.intro
      repeat first | assumption | exact up_s | refine up_e (by first | decide | omega) ?_
    · dsimp only [psh]
      refine A.if_ne1 20 (by decide) d_af_quarrel_15 ?_
      obtain ⟨τ, e1, e2, e3, e4, e5⟩ := okT_nat (hws.2.2 s hs) t1
      refine A.aload_k 0 rfl rfl rfl d_af_quarrel_20 ?_
      apply A.getfield f_af_50 d_af_quarrel_21
      · repeat first | assumption | exact up_s | refine up_e (by first | decide | omega) ?_
      · rfl
      refine A.aload_k 3 rfl rfl rfl d_af_quarrel_24 ?_
      refine A.iload_k 2 rfl rfl d_af_quarrel_25 ?_
      rw [e1]
      refine A.callV2 s_af_220 ?_ (Nat.le_of_ble_eq_true rfl) (Nat.le_of_ble_eq_true rfl) (Nat.le_of_ble_eq_true rfl) d_af_quarrel_26 rfl (c_sv_measure hC hw hws hs rfl (hws.2.2 s hs) e5 e3 e4 (ddM_le hws) (fun G1 hC1 hF1 hR => ?_))
      · apply Exists.intro
        repeat first | assumption | exact up_s | refine up_e (by first | decide | omega) ?_
      dsimp only [psh]
      have hr1 := hC1.root.1
      have hv11 := hC1.sv.1
      refine A.aload_k 0 rfl rfl rfl d_af_quarrel_29 ?_
      apply A.getfield f_af_50 d_af_quarrel_30
      · repeat first | assumption | exact up_s | refine up_e (by first | decide | omega) ?_
      · rfl
      refine A.aload_k 3 rfl rfl rfl d_af_quarrel_33 ?_
      refine A.iload_k 2 rfl rfl d_af_quarrel_34 ?_
      first | rw [e1] | skip
      refine A.callV2 s_af_224 ?_ (Nat.le_of_ble_eq_true rfl) (Nat.le_of_ble_eq_true rfl) (Nat.le_of_ble_eq_true rfl) d_af_quarrel_35 rfl (c_sv_least hC1 hws hs rfl (hws.2.2 s hs) e5 e3 e4 (ddM_le hws) hR ?_)
      · apply Exists.intro
        repeat first | assumption | exact up_s | refine up_e (by first | decide | omega) ?_
      dsimp only [psh]
      refine A.iret d_af_quarrel_38 rfl ?_
      exact h1 s τ hs hx e1 e4 t1 G1 hC1 hF1
    · dsimp only [psh]
      refine A.if_ne0 d_af_quarrel_15 (tgt := 20) (by decide) ?_
      refine A.iconst (v := -1) rfl d_af_quarrel_18 ?_
      refine A.iret d_af_quarrel_19 rfl ?_
      first | exact h0 (fun q hq e => absurd e (q0 q hq)) | (refine h0 (fun q hq e => ?_); obtain rfl : q = s := nI_inj (by omega) (by omega) (e.symm.trans hx); exact t0)
  · dsimp only [psh]
    refine A.astore_k 3 rfl (Nat.le_of_ble_eq_true rfl) rfl rfl d_af_quarrel_5 ?_
    dsimp only [List.set]
    refine A.aload_k 3 rfl rfl rfl d_af_quarrel_6 ?_
    refine A.ifnull_0 18 (by decide) d_af_quarrel_7 ?_
    refine A.iconst (v := -1) rfl d_af_quarrel_18 ?_
    refine A.iret d_af_quarrel_19 rfl ?_
    first | exact h0 (fun q hq e => absurd e (q0 q hq)) | (refine h0 (fun q hq e => ?_); obtain rfl : q = s := nI_inj (by omega) (by omega) (e.symm.trans hx); exact t0)
theorem c_af_border {x t k : Int32} (hC : CH G M np) (hw : WF M np) (hws : WS M np) (h0 : (∀ q j, q < 6 → x = nI q → okT (strL M (nI q) np).length t → j + 2 ≤ (strL M (nI q) np).length → k ≠ nI j) → Q (some (.int (-1))) G)
    (h1 : ∀ q τ j, q < 6 → x = nI q → t = nI τ → τ ≤ 300 → okT (strL M (nI q) np).length t → j + 2 ≤ (strL M (nI q) np).length → k = nI j → ∀ G', CH G' M np → FrC G G' → Q (some (.int (nI (bdN (strL M (nI q) np).length τ (ddM M (nI q) np) (skM M q) (j + 1))))) G') : A 6 M_af_border 0 [some (.ref 20), some (.int x), some (.int t), some (.int k), none] [] G kc ks Q := by
  have hr := hC.root.1
  have hs1 := fun q hq => (hC.str.2 q hq).1
  have hv1 := hC.sv.1
  refine A.aload_k 0 rfl rfl rfl d_af_border_0 ?_
  refine A.iload_k 1 rfl rfl d_af_border_1 ?_
  refine A.callV1 s_af_85 ?_ (Nat.le_of_ble_eq_true rfl) (Nat.le_of_ble_eq_true rfl) (Nat.le_of_ble_eq_true rfl) d_af_border_2 rfl (c_af_streetAt hC (fun s hs hx => ?_) (fun q0 => ?_))
  · apply Exists.intro
    repeat first | assumption | exact up_s | refine up_e (by first | decide | omega) ?_
  · dsimp only [psh]
    refine A.astore (Nat.le_of_ble_eq_true rfl) rfl rfl d_af_border_5 ?_
    dsimp only [List.set]
    refine A.aload rfl rfl d_af_border_7 ?_
    refine A.ifnull_r d_af_border_9 ?_
    have hss := hs1 s hs
    obtain ⟨m, hl⟩ := (hC.str.2 s hs).2.2.1
    refine A.aload rfl rfl d_af_border_12 ?_
    refine A.iload_k 2 rfl rfl d_af_border_14 ?_
    refine A.callV1 s_af_217 ?_ (Nat.le_of_ble_eq_true rfl) (Nat.le_of_ble_eq_true rfl) (Nat.le_of_ble_eq_true rfl) d_af_border_15 rfl (c_sr_canMeasure hC hws hs (fun t1 => ?_) (fun t0 => ?_))
    · apply Exists.intro
      repeat first | assumption | exact up_s | refine up_e (by first | decide | omega) ?_
    · dsimp only [psh]
      refine A.if_eq1 d_af_border_18 (tgt := 39) (by decide) ?_
      refine A.iload_k 3 rfl rfl d_af_border_21 ?_
      refine A.iconst (v := 0) rfl d_af_border_22 ?_
      refine A.aload rfl rfl d_af_border_23 ?_
      apply A.getfield f_af_176 d_af_border_25
      · repeat first | assumption | exact up_s | refine up_e (by first | decide | omega) ?_
      · rfl
      refine A.callV0 s_af_89 ?_ (Nat.le_of_ble_eq_true rfl) (Nat.le_of_ble_eq_true rfl) (Nat.le_of_ble_eq_true rfl) d_af_border_28 rfl (c_al_size (by repeat first | assumption | exact up_s | refine up_e (by first | decide | omega) ?_) ?_)
      · apply Exists.intro
        repeat first | assumption | exact up_s | refine up_e (by first | decide | omega) ?_
      dsimp only [psh]
      refine A.iconst (v := 2) rfl d_af_border_31 ?_
      refine A.isub d_af_border_32 ?_
      refine A.callS3 s_af_76 (Nat.le_of_ble_eq_true rfl) (Nat.le_of_ble_eq_true rfl) (Nat.le_of_ble_eq_true rfl) d_af_border_33 rfl (c_af_within (fun i1 i2 => ?_) (fun i3 => ?_))
      · dsimp only [psh]
        refine A.if_ne1 41 (by decide) d_af_border_36 ?_
        obtain ⟨τ, e1, e2, e3, e4, e5⟩ := okT_nat (hws.2.2 s hs) t1
        obtain ⟨j, j1, j2⟩ := of2 (hws.2.2 s hs) i1 i2
        refine A.aload_k 0 rfl rfl rfl d_af_border_41 ?_
        apply A.getfield f_af_50 d_af_border_42
        · repeat first | assumption | exact up_s | refine up_e (by first | decide | omega) ?_
        · rfl
        refine A.aload rfl rfl d_af_border_45 ?_
        refine A.iload_k 2 rfl rfl d_af_border_47 ?_
        rw [e1]
        refine A.callV2 s_af_220 ?_ (Nat.le_of_ble_eq_true rfl) (Nat.le_of_ble_eq_true rfl) (Nat.le_of_ble_eq_true rfl) d_af_border_48 rfl (c_sv_measure hC hw hws hs rfl (hws.2.2 s hs) e5 e3 e4 (ddM_le hws) (fun G1 hC1 hF1 hR => ?_))
        · apply Exists.intro
          repeat first | assumption | exact up_s | refine up_e (by first | decide | omega) ?_
        dsimp only [psh]
        have hr1 := hC1.root.1
        have hv11 := hC1.sv.1
        refine A.aload_k 0 rfl rfl rfl d_af_border_51 ?_
        apply A.getfield f_af_50 d_af_border_52
        · repeat first | assumption | exact up_s | refine up_e (by first | decide | omega) ?_
        · rfl
        refine A.aload rfl rfl d_af_border_55 ?_
        refine A.iload_k 2 rfl rfl d_af_border_57 ?_
        refine A.iload_k 3 rfl rfl d_af_border_58 ?_
        rw [j2]
        first | rw [e1] | skip
        refine A.callV3 s_af_228 ?_ (Nat.le_of_ble_eq_true rfl) (Nat.le_of_ble_eq_true rfl) (Nat.le_of_ble_eq_true rfl) d_af_border_59 rfl (c_sv_border hC1 hws hs rfl (hws.2.2 s hs) e3 e4 (ddM_le hws) hR j1 ?_)
        · apply Exists.intro
          repeat first | assumption | exact up_s | refine up_e (by first | decide | omega) ?_
        dsimp only [psh]
        refine A.iret d_af_border_62 rfl ?_
        exact h1 s τ j hs hx e1 e4 t1 j1 j2 G1 hC1 hF1
      · dsimp only [psh]
        refine A.if_ne0 d_af_border_36 (tgt := 41) (by decide) ?_
        refine A.iconst (v := -1) rfl d_af_border_39 ?_
        refine A.iret d_af_border_40 rfl ?_
        first | exact h0 (fun q j hq e => absurd e (q0 q hq)) | (refine h0 (fun q j hq e ok hj2 ek => ?_); obtain rfl : q = s := nI_inj (by omega) (by omega) (e.symm.trans hx); first | exact t0 ok | exact i3 (bt2 hj2 (hws.2.2 q hq) ek))
    · dsimp only [psh]
      refine A.if_eq0 39 (by decide) d_af_border_18 ?_
      refine A.iconst (v := -1) rfl d_af_border_39 ?_
      refine A.iret d_af_border_40 rfl ?_
      first | exact h0 (fun q j hq e => absurd e (q0 q hq)) | (refine h0 (fun q j hq e ok hj2 ek => ?_); obtain rfl : q = s := nI_inj (by omega) (by omega) (e.symm.trans hx); first | exact t0 ok | exact i3 (bt2 hj2 (hws.2.2 q hq) ek))
  · dsimp only [psh]
    refine A.astore (Nat.le_of_ble_eq_true rfl) rfl rfl d_af_border_5 ?_
    dsimp only [List.set]
    refine A.aload rfl rfl d_af_border_7 ?_
    refine A.ifnull_0 39 (by decide) d_af_border_9 ?_
    refine A.iconst (v := -1) rfl d_af_border_39 ?_
    refine A.iret d_af_border_40 rfl ?_
    first | exact h0 (fun q j hq e => absurd e (q0 q hq)) | (refine h0 (fun q j hq e ok hj2 ek => ?_); obtain rfl : q = s := nI_inj (by omega) (by omega) (e.symm.trans hx); first | exact t0 ok | exact i3 (bt2 hj2 (hws.2.2 q hq) ek))
end QUARREL
