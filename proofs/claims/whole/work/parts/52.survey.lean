/-! the component: streets measured -/
section SURVEY
variable {M S : MS} {G : AHp} {kc ks np : Nat} {Q : Option Value → AHp → Prop}
theorem CH.row (h : CH G M np) (hw : WF M np) {i : Nat} (hi : i < 8) (g : Nat → Int32) : CH (up G (60 + i) (aI 301 g)) M np := by
  have hG : ∀ a, a ≠ 60 + i → up G (60 + i) (aI 301 g) a = G a := fun a x => up_n x
  refine ⟨⟨(hG _ (by omega)).trans h.root.1, (hG _ (by omega)).trans h.root.2⟩, h.list.fr (fun a x => hG a (by omega)), h.str.fr (fun a x => hG a (by omega)) rfl rfl, h.sh.fr (fun a x => hG a (by omega)), h.br.fr (fun a x => hG a (by omega)), h.ct.fr (fun a x => hG a (by omega)) rfl rfl rfl rfl, ⟨(hG _ (by omega)).trans h.sv.1, by rw [hG _ (by omega)]; exact h.sv.2.1, fun k hk => ?_⟩, fun p hp => (h.pl hp).fr (hw.zle p) (fun a x y => hG a (by omega)) (fun _ _ => rfl) (fun _ _ _ _ _ => rfl) rfl, h.fre.fr (fun a x => hG a (by omega)) hw.2.1⟩
  by_cases e : k = i
  · subst e; exact ⟨g, up_s⟩
  · rw [hG _ (by omega)]; exact h.sv.2.2 k hk
theorem c_sr_frontOf {q k : Nat} (hC : CH G M np) (hws : WS M np) (hq : q < 6) (hk : k < (strL M (nI q) np).length) (h : Q (some (.int (nI (ddM M (nI q) np k)))) G) : A 3 M_sr_frontOf 0 [some (.ref (40 + q)), some (.int (nI k))] [] G kc ks Q := by
  have hl8 := hws.2.2 q hq
  obtain ⟨s1, s2, ⟨m, s3⟩, s4, s5⟩ := hC.str.2 q hq
  rw [if_neg (by omega)] at s3
  obtain ⟨f, f1, f2⟩ := s4 (by omega)
  have hf := f2 k hk
  have hmem : (strL M (nI q) np).getD k 0 ∈ strL M (nI q) np := by
    rw [List.getD_eq_getElem?_getD, List.getElem?_eq_getElem hk]
    exact List.getElem_mem hk
  have hp := (strL_lt M (nI q) np _ hmem).1
  obtain ⟨fr, r1, r2⟩ := hws.1 _ hp
  have hpl := (hC.pl hp).1
  unfold ddM at h
  rw [r2, hN_nI (by omega)] at h
  refine A.iload_k 1 rfl rfl d_sr_frontOf_0 ?_
  refine A.iconst (v := 0) rfl d_sr_frontOf_1 ?_
  refine A.aload_k 0 rfl rfl rfl d_sr_frontOf_2 ?_
  apply A.getfield f_sr_12 d_sr_frontOf_3
  · repeat first | assumption | exact up_s | refine up_e (by first | decide | omega) ?_
  · rfl
  refine A.callV0 s_sr_22 ?_ (Nat.le_of_ble_eq_true rfl) (Nat.le_of_ble_eq_true rfl) (Nat.le_of_ble_eq_true rfl) d_sr_frontOf_6 rfl (c_al_size (by repeat first | assumption | exact up_s | refine up_e (by first | decide | omega) ?_) ?_)
  · apply Exists.intro
    repeat first | assumption | exact up_s | refine up_e (by first | decide | omega) ?_
  dsimp only [psh]
  refine A.iconst (v := 1) rfl d_sr_frontOf_9 ?_
  refine A.isub d_sr_frontOf_10 ?_
  refine A.callS3 s_sr_58 (Nat.le_of_ble_eq_true rfl) (Nat.le_of_ble_eq_true rfl) (Nat.le_of_ble_eq_true rfl) d_sr_frontOf_11 rfl (c_af_within (fun i1 i2 => ?_) (fun i3 => absurd ⟨nI_pos' (by omega), by rw [nI_1s (by omega) (by omega)]; exact nI_le (by omega) (by omega)⟩ i3))
  dsimp only [psh]
  refine A.if_eq1 d_sr_frontOf_14 (tgt := 34) (by decide) ?_
  refine A.aload_k 0 rfl rfl rfl d_sr_frontOf_17 ?_
  apply A.getfield f_sr_12 d_sr_frontOf_18
  · repeat first | assumption | exact up_s | refine up_e (by first | decide | omega) ?_
  · rfl
  refine A.iload_k 1 rfl rfl d_sr_frontOf_21 ?_
  refine A.callV1 s_sr_30 ?_ (Nat.le_of_ble_eq_true rfl) (Nat.le_of_ble_eq_true rfl) (Nat.le_of_ble_eq_true rfl) d_sr_frontOf_22 rfl (c_al_get s3 f1 hk (by omega) hf ?_)
  · apply Exists.intro
    repeat first | assumption | exact up_s | refine up_e (by first | decide | omega) ?_
  dsimp only [psh]
  refine A.cast1 (ci := 5) d_sr_frontOf_25 cl_sr_34 rfl ?_ ?_
  · apply Exists.intro
    repeat first | assumption | exact up_s | refine up_e (by first | decide | omega) ?_
  apply A.getfield f_sr_62 d_sr_frontOf_28
  · repeat first | assumption | exact up_s | refine up_e (by first | decide | omega) ?_
  · rfl
  refine A.goto 35 (by decide) d_sr_frontOf_31 ?_
  refine A.iret d_sr_frontOf_35 rfl ?_
  rw [r2]; exact h
theorem abs_nI {a b : Nat} (ha : a < 1000000) (hb : b < 1000000) : (if 0 ≤ nI a - nI b then nI a - nI b else 0 - (nI a - nI b)) = nI (apN a b) := by
  have e := pk_sub_toInt (a := a) (b := b) (by omega) (by omega)
  have e : (nI a - nI b).toInt = (a : Int) - b := e
  unfold apN
  by_cases c : a < b
  · rw [if_pos c, if_neg (fun z => by
      rw [Int32.le_iff_toInt_le, e] at z
      have : (0 : Int32).toInt = 0 := by decide
      omega), Int32.zero_sub, Int32.neg_sub, pk_sub (by omega)]
  · rw [if_neg c, if_pos (Int32.le_iff_toInt_le.mpr (by
      rw [e]
      have : (0 : Int32).toInt = 0 := by decide
      omega)), pk_sub (by omega)]
theorem c_sr_stakeGap {q k y : Nat} (hC : CH G M np) (hws : WS M np) (hq : q < 6) (hk : k < 7) (hy : y < 1000) (h : Q (some (.int (nI (skN (skM M q k) y)))) G) : A 1 M_sr_stakeGap 0 [some (.ref (40 + q)), some (.int (nI k)), some (.int (nI y))] [] G kc ks Q := by
  obtain ⟨s1, ⟨g, s2, s3⟩, s4⟩ := hC.str.2 q hq
  have hg := s3 k hk
  refine A.iload_k 1 rfl rfl d_sr_stakeGap_0 ?_
  refine A.iconst (v := 0) rfl d_sr_stakeGap_1 ?_
  refine A.aload_k 0 rfl rfl rfl d_sr_stakeGap_2 ?_
  apply A.getfield f_sr_18 d_sr_stakeGap_3
  · repeat first | assumption | exact up_s | refine up_e (by first | decide | omega) ?_
  · rfl
  apply A.alen d_sr_stakeGap_6
  · repeat first | assumption | exact up_s | refine up_e (by first | decide | omega) ?_
  · rfl
  refine A.iconst (v := 1) rfl d_sr_stakeGap_7 ?_
  refine A.isub d_sr_stakeGap_8 ?_
  refine A.callS3 s_sr_58 (Nat.le_of_ble_eq_true rfl) (Nat.le_of_ble_eq_true rfl) (Nat.le_of_ble_eq_true rfl) d_sr_stakeGap_9 rfl (c_af_within (fun i1 i2 => ?_) (fun i3 => absurd (nI_bt (n := 6) (q := k) (hi := Int32.ofNat 7 - 1) (by decide) (by omega) (by omega)) i3))
  dsimp only [psh]
  refine A.if_eq1 d_sr_stakeGap_12 (tgt := 25) (by decide) ?_
  refine A.aload_k 0 rfl rfl rfl d_sr_stakeGap_15 ?_
  apply A.getfield f_sr_18 d_sr_stakeGap_16
  · repeat first | assumption | exact up_s | refine up_e (by first | decide | omega) ?_
  · rfl
  refine A.iload_k 1 rfl rfl d_sr_stakeGap_19 ?_
  apply A.iaload (j := k) d_sr_stakeGap_20
  · repeat first | assumption | exact up_s | refine up_e (by first | decide | omega) ?_
  · exact ixn (by omega)
  · exact hk
  refine A.iconst (v := -1) rfl d_sr_stakeGap_21 ?_
  rw [hg]
  refine A.icmp_ne 27 (by decide) d_sr_stakeGap_22 (fun c22 => ?_) (fun c22 => ?_)
  · refine A.iload_k 2 rfl rfl d_sr_stakeGap_27 ?_
    refine A.aload_k 0 rfl rfl rfl d_sr_stakeGap_28 ?_
    apply A.getfield f_sr_18 d_sr_stakeGap_29
    · repeat first | assumption | exact up_s | refine up_e (by first | decide | omega) ?_
    · rfl
    refine A.iload_k 1 rfl rfl d_sr_stakeGap_32 ?_
    apply A.iaload (j := k) d_sr_stakeGap_33
    · repeat first | assumption | exact up_s | refine up_e (by first | decide | omega) ?_
    · exact ixn (by omega)
    · exact hk
    refine A.isub d_sr_stakeGap_34 ?_
    refine A.abs d_sr_stakeGap_35 s_sr_66 (Nat.le_of_ble_eq_true rfl) (Nat.le_of_ble_eq_true rfl) ?_
    refine A.iret d_sr_stakeGap_38 rfl ?_
    rcases skM_ok hws q k with ⟨e1, e2⟩ | ⟨z, z1, z2, z3⟩
    · exact absurd e1 c22
    · rw [hg, z2, abs_nI (by omega) (by omega)]; rw [z3] at h; exact h
  · refine A.iconst (v := 0) rfl d_sr_stakeGap_25 ?_
    refine A.iret d_sr_stakeGap_26 rfl ?_
    rcases skM_ok hws q k with ⟨e1, e2⟩ | ⟨z, z1, z2, z3⟩
    · rw [e2] at h; exact h
    · rw [z2] at c22; exact absurd c22 (nI_nm1 (by omega))
theorem c_sv_quarrelAt {r w e : Nat} {g : Nat → Int32} {B : Nat → Nat} (hr : G r = some (aI 301 g)) (he : e ≤ 300) (hw : w < 1000) (hB : g e = nI (B e)) (h : Q (some (.int (nI (psi B w e)))) G) : A 1 M_sv_quarrelAt 0 [some (.ref r), some (.int (nI w)), some (.int (nI e))] [] G kc ks Q := by
  refine A.iload_k 2 rfl rfl d_sv_quarrelAt_0 ?_
  refine A.iconst (v := 0) rfl d_sv_quarrelAt_1 ?_
  refine A.aload_k 0 rfl rfl rfl d_sv_quarrelAt_2 ?_
  apply A.alen d_sv_quarrelAt_3
  · repeat first | assumption | exact up_s | refine up_e (by first | decide | omega) ?_
  · rfl
  refine A.iconst (v := 1) rfl d_sv_quarrelAt_4 ?_
  refine A.isub d_sv_quarrelAt_5 ?_
  refine A.callS3 s_sv_28 (Nat.le_of_ble_eq_true rfl) (Nat.le_of_ble_eq_true rfl) (Nat.le_of_ble_eq_true rfl) d_sv_quarrelAt_6 rfl (c_af_within (fun i1 i2 => ?_) (fun i3 => absurd (nI_bt (n := 300) (q := e) (hi := Int32.ofNat 301 - 1) (by decide) (by omega) (by omega)) i3))
  dsimp only [psh]
  refine A.if_eq1 d_sv_quarrelAt_9 (tgt := 25) (by decide) ?_
  refine A.iload_k 2 rfl rfl d_sv_quarrelAt_12 ?_
  refine A.iload_k 1 rfl rfl d_sv_quarrelAt_13 ?_
  refine A.isub d_sv_quarrelAt_14 ?_
  refine A.abs d_sv_quarrelAt_15 s_sv_57 (Nat.le_of_ble_eq_true rfl) (Nat.le_of_ble_eq_true rfl) ?_
  refine A.aload_k 0 rfl rfl rfl d_sv_quarrelAt_18 ?_
  refine A.iload_k 2 rfl rfl d_sv_quarrelAt_19 ?_
  apply A.iaload (j := e) d_sv_quarrelAt_20
  · repeat first | assumption | exact up_s | refine up_e (by first | decide | omega) ?_
  · exact ixn (by omega)
  · omega
  refine A.iadd d_sv_quarrelAt_21 ?_
  refine A.goto 26 (by decide) d_sv_quarrelAt_22 ?_
  refine A.iret d_sv_quarrelAt_26 rfl ?_
  rw [abs_nI (by omega) (by omega), hB, nI_add]; exact h
theorem fbN_s (f : Nat → Nat) (k e : Nat) : fbN f (k + 1) e = if f (e + 1) < f e then fbN f k (e + 1) else e := rfl
theorem c_sv_firstBest {r w a far : Nat} {g : Nat → Int32} {B : Nat → Nat} (hr : G r = some (aI 301 g)) (hf : far ≤ 300) (ha : a ≤ far) (hw : w < 1000) (hB : ∀ e, a ≤ e → e ≤ far → g e = nI (B e) ∧ B e < 100000) (h : Q (some (.int (nI (fbN (psi B w) (far - a) a)))) G) : A 2 M_sv_firstBest 0 [some (.ref r), some (.int (nI w)), some (.int (nI a)), some (.int (nI far)), none, none, none] [] G kc ks Q := by
  have hps : ∀ e, a ≤ e → e ≤ far → psi B w e < 1000000 := fun e e1 e2 => by
    have := (hB e e1 e2).2
    unfold psi apN
    split <;> omega
  have loop : ∀ (k e : Nat) (v6 : Option Value), a ≤ e → e + k = far → fbN (psi B w) k e = fbN (psi B w) (far - a) a → A 2 M_sv_firstBest 12 [some (.ref r), some (.int (nI w)), some (.int (nI a)), some (.int (nI far)), some (.int (nI e)), some (.int (nI (psi B w e))), v6] [] G kc ks Q := by
    intro k
    induction k with
    | zero =>
      intro e v6 h1 h2 h3
      rw [← h3] at h
      refine A.iload rfl d_sv_firstBest_12 ?_
      refine A.iload_k 3 rfl rfl d_sv_firstBest_14 ?_
      refine A.icmp_ge 49 (by decide) d_sv_firstBest_15 (fun c15 => ?_) (fun c15 => ?_)
      · refine A.iload rfl d_sv_firstBest_49 ?_
        refine A.iret d_sv_firstBest_51 rfl ?_
        exact h
      · exact absurd (nI_le (by omega) (by omega)) c15
    | succ k ih =>
      intro e v6 h1 h2 h3
      have p1 := hps e h1 (by omega)
      have p2 := hps (e + 1) (by omega) (by omega)
      rw [fbN_s (psi B w) k e] at h3
      refine A.iload rfl d_sv_firstBest_12 ?_
      refine A.iload_k 3 rfl rfl d_sv_firstBest_14 ?_
      refine A.icmp_ge 49 (by decide) d_sv_firstBest_15 (fun c15 => ?_) (fun c15 => ?_)
      · exact absurd ((nI_leI (by omega) (by omega)).mp c15) (by omega)
      refine A.aload_k 0 rfl rfl rfl d_sv_firstBest_18 ?_
      refine A.iload_k 1 rfl rfl d_sv_firstBest_19 ?_
      refine A.iload rfl d_sv_firstBest_20 ?_
      refine A.iconst (v := 1) rfl d_sv_firstBest_22 ?_
      refine A.iadd d_sv_firstBest_23 ?_
      rw [nI_1]
      refine A.callS3 s_sv_53 (Nat.le_of_ble_eq_true rfl) (Nat.le_of_ble_eq_true rfl) (Nat.le_of_ble_eq_true rfl) d_sv_firstBest_24 rfl (c_sv_quarrelAt hr (by omega) hw (hB (e + 1) (by omega) (by omega)).1 ?_)
      dsimp only [psh]
      refine A.istore (Nat.le_of_ble_eq_true rfl) rfl d_sv_firstBest_27 ?_
      dsimp only [List.set]
      refine A.iload rfl d_sv_firstBest_29 ?_
      refine A.iload rfl d_sv_firstBest_31 ?_
      refine A.icmp_lt 39 (by decide) d_sv_firstBest_33 (fun c33 => ?_) (fun c33 => ?_)
      · refine A.iload rfl d_sv_firstBest_39 ?_
        refine A.istore (Nat.le_of_ble_eq_true rfl) rfl d_sv_firstBest_41 ?_
        dsimp only [List.set]
        refine A.iincp (n := 4) rfl (Nat.le_of_ble_eq_true rfl) d_sv_firstBest_43 ?_
        dsimp only [List.set]
        refine A.goto 12 (by decide) d_sv_firstBest_46 ?_
        rw [nI_1]
        rw [if_pos ((nI_ltI (by omega) (by omega)).mp c33)] at h3
        exact ih (e + 1) _ (by omega) (by omega) h3
      · refine A.iload rfl d_sv_firstBest_36 ?_
        refine A.iret d_sv_firstBest_38 rfl ?_
        rw [if_neg (fun z => c33 ((nI_ltI (by omega) (by omega)).mpr z))] at h3
        rw [← h3] at h
        exact h
  refine A.iload_k 2 rfl rfl d_sv_firstBest_0 ?_
  refine A.istore (Nat.le_of_ble_eq_true rfl) rfl d_sv_firstBest_1 ?_
  dsimp only [List.set]
  refine A.aload_k 0 rfl rfl rfl d_sv_firstBest_3 ?_
  refine A.iload_k 1 rfl rfl d_sv_firstBest_4 ?_
  refine A.iload rfl d_sv_firstBest_5 ?_
  refine A.callS3 s_sv_53 (Nat.le_of_ble_eq_true rfl) (Nat.le_of_ble_eq_true rfl) (Nat.le_of_ble_eq_true rfl) d_sv_firstBest_7 rfl (c_sv_quarrelAt hr (by omega) hw (hB a (by omega) (by omega)).1 ?_)
  dsimp only [psh]
  refine A.istore (Nat.le_of_ble_eq_true rfl) rfl d_sv_firstBest_10 ?_
  dsimp only [List.set]
  exact loop (far - a) a none (by omega) (by omega) rfl
def rng (n τ i e : Nat) : Prop := i + 1 ≤ e ∧ e + (n - (i + 1)) ≤ τ ∧ (i + 1 = n → e = τ)
theorem RR_lt {n t : Nat} {dd : Nat → Nat} {sk : Nat → Option Nat} (hn : n ≤ 8) (ht : t ≤ 300) (hdd : ∀ j, j < n → dd j ≤ 60) (hsk : ∀ j z, j < n → sk j = some z → z ≤ 300) {i e : Nat} (hi : i < n) (h : rng n t i e) : RR n t dd sk i e < 10000 := by
  unfold RR
  by_cases c : i + 1 = n
  · rw [if_pos c]; omega
  · rw [if_neg c]
    have h1 := DN_small hn ht hdd hsk (n - (i + 1)) e (by omega) (fun z => by omega) h.2.1
    have h2 : skN (sk i) e ≤ 300 := by
      cases hs : sk i with
      | none => exact Nat.zero_le _
      | some z => exact apN_le (by have := h.2.1; omega) (hsk i z hi hs)
    omega
theorem c_sv_fillRow {q i τ n : Nat} (hC : CH G M np) (hw : WF M np) (hws : WS M np) (hq : q < 6) (hn : (strL M (nI q) np).length = n) (hn8 : n ≤ 8) (hi : i + 1 < n) (hnt : n ≤ τ) (ht : τ ≤ 300) (hdd : ∀ k, k < n → ddM M (nI q) np k ≤ 60) (hrow : ∃ g, G (60 + (i + 1)) = some (aI 301 g) ∧ ∀ e, rng n τ (i + 1) e → g e = nI (RR n τ (ddM M (nI q) np) (skM M q) (i + 1) e)) (h : ∀ g', (∀ e, rng n τ i e → g' e = nI (RR n τ (ddM M (nI q) np) (skM M q) i e)) → Q none (up G (60 + i) (aI 301 g'))) : A 4 M_sv_fillRow 0 [some (.ref 27), some (.ref (40 + q)), some (.int (nI i)), some (.int (nI (τ - (n - (i + 1))))), none, none, none, none] [] G kc ks Q := by
  have hsk : ∀ j z, j < n → skM M q j = some z → z ≤ 300 := fun j z _ e => by
    rcases skM_ok hws q j with ⟨-, e2⟩ | ⟨z', z1, -, z3⟩
    · rw [e2] at e; cases e
    · rw [z3] at e; cases e; exact z1
  obtain ⟨g1, r1, r2⟩ := hrow
  obtain ⟨v1, ⟨f, v2, v3⟩, v4⟩ := hC.sv
  obtain ⟨g0, r0⟩ := v4 i (by omega)
  obtain ⟨s1, s2, ⟨m, s3⟩, s4, s5⟩ := hC.str.2 q hq
  rw [hn] at s3
  have loop : ∀ (k x b : Nat) (il : Int32) (g : Nat → Int32), i + 1 ≤ x → x + k = τ - (n - (i + 1)) + 1 → (∀ e, rng n τ i e → e < x → g e = nI (RR n τ (ddM M (nI q) np) (skM M q) i e)) → b ≤ 300 → (x ≤ τ - (n - (i + 1)) → (if i + 2 = n then τ else i + 2) ≤ b ∧ b ≤ aF n τ (ddM M (nI q) np) (skM M q) (i + 1) x) → A 4 M_sv_fillRow 52 [some (.ref 27), some (.ref (40 + q)), some (.int (nI i)), some (.int (nI (τ - (n - (i + 1))))), some (.int il), some (.int (nI (ddM M (nI q) np (i + 1)))), some (.int (nI b)), some (.int (nI x))] [] (up G (60 + i) (aI 301 g)) kc ks Q := by
    intro k
    induction k with
    | zero =>
      intro x b il g x1 x2 x3 x4 x5
      refine A.iload rfl d_sv_fillRow_52 ?_
      refine A.iload_k 3 rfl rfl d_sv_fillRow_54 ?_
      refine A.icmp_gt 129 (by decide) d_sv_fillRow_55 (fun c55 => ?_) (fun c55 => ?_)
      · refine A.vret d_sv_fillRow_129 rfl ?_
        exact h g (fun e he => x3 e he (by have := he.2.1; omega))
      · exact absurd (nI_lt (by omega) (by omega)) c55
    | succ k ih =>
      intro x b il g x1 x2 x3 x4 x5
      have hC' : CH (up G (60 + i) (aI 301 g)) M np := hC.row hw (by omega) g
      obtain ⟨x5, x6⟩ := x5 (by omega)
      have hxr : rng n τ i x := ⟨by omega, by omega, fun z => by omega⟩
      have hF := aF_F hn8 ht hnt hdd hsk (i := i + 1) (x := x) (by omega) (by omega)
      have hD := aF_DN hn8 ht hnt hdd hsk (i := i + 1) (x := x) (by omega) (by omega)
      have hfar : τ - (n - (i + 1)) + 1 = τ - (n - (i + 1 + 1)) := by omega
      have haF := hF.2.1
      -- where the walk begins
      have hmx : (if nI b < nI (x + 1) then nI (x + 1) else nI b) = nI (max b (x + 1)) := by
        by_cases c : b < x + 1
        · rw [if_pos ((nI_ltI (by omega) (by omega)).mpr c), Nat.max_eq_right (by omega)]
        · rw [if_neg (fun z => c ((nI_ltI (by omega) (by omega)).mp z)), Nat.max_eq_left (by omega)]
      have hlo : (if i + 1 + 1 = n then τ else x + 1) ≤ max b (x + 1) := by
        split
        · rw [if_pos (by omega)] at x5; exact Nat.le_trans x5 (Nat.le_max_left _ _)
        · exact Nat.le_max_right _ _
      have hup : max b (x + 1) ≤ aF n τ (ddM M (nI q) np) (skM M q) (i + 1) x := Nat.max_le.mpr ⟨x6, Nat.le_trans (by split <;> omega) hF.1⟩
      have hsub := isF_sub hF hlo hup
      have hrg : ∀ e, max b (x + 1) ≤ e → e ≤ τ - (n - (i + 1 + 1)) → rng n τ (i + 1) e := fun e e1 e2 => by
        have := Nat.le_max_right b (x + 1)
        refine ⟨by omega, by omega, fun z => ?_⟩
        rw [if_pos z] at hlo
        omega
      have hBs : ∀ e, max b (x + 1) ≤ e → e ≤ τ - (n - (i + 1 + 1)) → g1 e = nI (RR n τ (ddM M (nI q) np) (skM M q) (i + 1) e) ∧ RR n τ (ddM M (nI q) np) (skM M q) (i + 1) e < 100000 := fun e e1 e2 => ⟨r2 e (hrg e e1 e2), Nat.lt_trans (RR_lt hn8 ht hdd hsk (by omega) (hrg e e1 e2)) (by omega)⟩
      have hfb : fbN (psi (RR n τ (ddM M (nI q) np) (skM M q) (i + 1)) (x + ddM M (nI q) np (i + 1))) (τ - (n - (i + 1 + 1)) - max b (x + 1)) (max b (x + 1)) = aF n τ (ddM M (nI q) np) (skM M q) (i + 1) x := by
        by_cases c : i + 1 + 1 = n
        · have e1 : aF n τ (ddM M (nI q) np) (skM M q) (i + 1) x = τ := by unfold aF; rw [if_pos c]
          rw [if_pos c] at hlo
          rw [e1, show τ - (n - (i + 1 + 1)) - max b (x + 1) = 0 by omega]
          show max b (x + 1) = τ
          omega
        · exact isF_eq (fb_F (psi_cvx _ (RR_cvx hn8 ht hnt hdd hsk (by omega))) _ _ (by omega) (by omega)) hsub
      have hdx := hdd (i + 1) (by omega)
      have hA : rng n τ (i + 1) (aF n τ (ddM M (nI q) np) (skM M q) (i + 1) x) := hrg _ hup haF
      have hval : skN (skM M q i) x + psi (RR n τ (ddM M (nI q) np) (skM M q) (i + 1)) (x + ddM M (nI q) np (i + 1)) (aF n τ (ddM M (nI q) np) (skM M q) (i + 1) x) = RR n τ (ddM M (nI q) np) (skM M q) i x := by
        rw [← hD]
        unfold RR
        rw [if_neg (by omega)]
      have e13 : up G (60 + i) (aI 301 g) (60 + (i + 1)) = some (aI 301 g1) := up_e (by omega) r1
      refine A.iload rfl d_sv_fillRow_52 ?_
      refine A.iload_k 3 rfl rfl d_sv_fillRow_54 ?_
      refine A.icmp_gt 129 (by decide) d_sv_fillRow_55 (fun c55 => ?_) (fun c55 => ?_)
      · exact absurd ((nI_ltI (by omega) (by omega)).mp c55) (by omega)
      refine A.aload_k 0 rfl rfl rfl d_sv_fillRow_58 ?_
      apply A.getfield f_sv_11 d_sv_fillRow_59
      · repeat first | assumption | exact up_s | refine up_e (by omega) ?_
      · rfl
      refine A.iload_k 2 rfl rfl d_sv_fillRow_62 ?_
      refine A.iconst (v := 1) rfl d_sv_fillRow_63 ?_
      refine A.iadd d_sv_fillRow_64 ?_
      rw [nI_1]
      apply A.aaload2 (j := i + 1) d_sv_fillRow_65
      · repeat first | assumption | exact up_s | refine up_e (by omega) ?_
      · exact ixn (by omega)
      · omega
      rw [v3 (i + 1) (by omega)]
      refine A.iload rfl d_sv_fillRow_66 ?_
      refine A.iload rfl d_sv_fillRow_68 ?_
      refine A.iadd d_sv_fillRow_70 ?_
      refine A.iload rfl d_sv_fillRow_71 ?_
      refine A.iload rfl d_sv_fillRow_73 ?_
      refine A.iconst (v := 1) rfl d_sv_fillRow_75 ?_
      refine A.iadd d_sv_fillRow_76 ?_
      rw [nI_1]
      refine A.max d_sv_fillRow_77 s_sv_40 (Nat.le_of_ble_eq_true rfl) (Nat.le_of_ble_eq_true rfl) ?_
      rw [hmx]
      refine A.iload_k 3 rfl rfl d_sv_fillRow_80 ?_
      refine A.iconst (v := 1) rfl d_sv_fillRow_81 ?_
      refine A.iadd d_sv_fillRow_82 ?_
      rw [nI_1, hfar, nI_add]
      refine A.callS4 s_sv_46 (Nat.le_of_ble_eq_true rfl) (Nat.le_of_ble_eq_true rfl) (Nat.le_of_ble_eq_true rfl) d_sv_fillRow_83 rfl (c_sv_firstBest e13 (by omega) (by omega) (by omega) hBs ?_)
      dsimp only [psh]
      rw [hfb]
      refine A.istore (Nat.le_of_ble_eq_true rfl) rfl d_sv_fillRow_86 ?_
      dsimp only [List.set]
      refine A.aload_k 0 rfl rfl rfl d_sv_fillRow_88 ?_
      apply A.getfield f_sv_11 d_sv_fillRow_89
      · repeat first | assumption | exact up_s | refine up_e (by omega) ?_
      · rfl
      refine A.iload_k 2 rfl rfl d_sv_fillRow_92 ?_
      apply A.aaload2 (j := i) d_sv_fillRow_93
      · repeat first | assumption | exact up_s | refine up_e (by omega) ?_
      · exact ixn (by omega)
      · omega
      rw [v3 i (by omega)]
      refine A.iload rfl d_sv_fillRow_94 ?_
      refine A.aload_k 1 rfl rfl rfl d_sv_fillRow_96 ?_
      refine A.iload_k 2 rfl rfl d_sv_fillRow_97 ?_
      refine A.iload rfl d_sv_fillRow_98 ?_
      refine A.callV2 s_sv_50 ?_ (Nat.le_of_ble_eq_true rfl) (Nat.le_of_ble_eq_true rfl) (Nat.le_of_ble_eq_true rfl) d_sv_fillRow_100 rfl (c_sr_stakeGap hC' hws hq (by omega) (by omega) ?_)
      · apply Exists.intro
        repeat first | assumption | exact up_s | refine up_e (by omega) ?_
      dsimp only [psh]
      refine A.aload_k 0 rfl rfl rfl d_sv_fillRow_103 ?_
      apply A.getfield f_sv_11 d_sv_fillRow_104
      · repeat first | assumption | exact up_s | refine up_e (by omega) ?_
      · rfl
      refine A.iload_k 2 rfl rfl d_sv_fillRow_107 ?_
      refine A.iconst (v := 1) rfl d_sv_fillRow_108 ?_
      refine A.iadd d_sv_fillRow_109 ?_
      rw [nI_1]
      apply A.aaload2 (j := i + 1) d_sv_fillRow_110
      · repeat first | assumption | exact up_s | refine up_e (by omega) ?_
      · exact ixn (by omega)
      · omega
      rw [v3 (i + 1) (by omega)]
      refine A.iload rfl d_sv_fillRow_111 ?_
      refine A.iload rfl d_sv_fillRow_113 ?_
      refine A.iadd d_sv_fillRow_115 ?_
      refine A.iload rfl d_sv_fillRow_116 ?_
      rw [nI_add]
      refine A.callS3 s_sv_53 (Nat.le_of_ble_eq_true rfl) (Nat.le_of_ble_eq_true rfl) (Nat.le_of_ble_eq_true rfl) d_sv_fillRow_118 rfl (c_sv_quarrelAt (e := aF n τ (ddM M (nI q) np) (skM M q) (i + 1) x) e13 (by omega) (by omega) (r2 _ hA) ?_)
      dsimp only [psh]
      refine A.iadd d_sv_fillRow_121 ?_
      rw [nI_add, hval]
      apply A.iastore (j := x) d_sv_fillRow_122
      · repeat first | assumption | exact up_s | refine up_e (by omega) ?_
      · first | decide | omega
      · exact ixn (by omega)
      · omega
      refine A.iincp (n := 7) rfl (Nat.le_of_ble_eq_true rfl) d_sv_fillRow_123 ?_
      dsimp only [List.set]
      refine A.goto 52 (by decide) d_sv_fillRow_126 ?_
      rw [nI_1, up_up]
      refine ih (x + 1) _ _ _ (by omega) (by omega) (fun e he hx => ?_) (by omega) (fun z => ⟨?_, aF_mono hn8 ht hnt hdd hsk (by omega) (by omega)⟩)
      · by_cases c : e = x
        · subst c; rw [upd_eq]
        · rw [upd_ne c]; exact x3 e he (by omega)
      · exact Nat.le_trans x5 (Nat.le_trans (Nat.le_max_left _ _) hup)
  have init : ∀ (b : Nat) (il : Int32), b = (if i + 2 = n then τ else i + 2) → A 4 M_sv_fillRow 52 [some (.ref 27), some (.ref (40 + q)), some (.int (nI i)), some (.int (nI (τ - (n - (i + 1))))), some (.int il), some (.int (nI (ddM M (nI q) np (i + 1)))), some (.int (nI b)), some (.int (nI (i + 1)))] [] G kc ks Q := by
    intro b il hb
    have hF := aF_F hn8 ht hnt hdd hsk (i := i + 1) (x := i + 1) (by omega) (by omega)
    have e := loop (τ - (n - (i + 1)) - i) (i + 1) b il g0 (Nat.le_refl _) (by omega) (fun e he hx => by have := he.1; omega) (by rw [hb]; split <;> omega) (fun _ => ⟨by rw [hb]; exact Nat.le_refl _, by rw [hb]; exact hF.1⟩)
    rw [up_id r0] at e
    exact e
  refine A.iload_k 2 rfl rfl d_sv_fillRow_0 ?_
  refine A.iconst (v := 1) rfl d_sv_fillRow_1 ?_
  refine A.iadd d_sv_fillRow_2 ?_
  refine A.aload_k 1 rfl rfl rfl d_sv_fillRow_3 ?_
  apply A.getfield f_sv_16 d_sv_fillRow_4
  · repeat first | assumption | exact up_s | refine up_e (by first | decide | omega) ?_
  · rfl
  refine A.callV0 s_sv_22 ?_ (Nat.le_of_ble_eq_true rfl) (Nat.le_of_ble_eq_true rfl) (Nat.le_of_ble_eq_true rfl) d_sv_fillRow_7 rfl (c_al_size (by repeat first | assumption | exact up_s | refine up_e (by first | decide | omega) ?_) ?_)
  · apply Exists.intro
    repeat first | assumption | exact up_s | refine up_e (by first | decide | omega) ?_
  dsimp only [psh]
  refine A.iconst (v := 1) rfl d_sv_fillRow_10 ?_
  refine A.isub d_sv_fillRow_11 ?_
  rw [nI_1, nI_1s (by omega) (by omega)]
  refine A.icmp_ne 19 (by decide) d_sv_fillRow_12 (fun c12 => ?_) (fun c12 => ?_)
  · refine A.iconst (v := 0) rfl d_sv_fillRow_19 ?_
    refine A.istore (Nat.le_of_ble_eq_true rfl) rfl d_sv_fillRow_20 ?_
    dsimp only [List.set]
    refine A.aload_k 1 rfl rfl rfl d_sv_fillRow_22 ?_
    refine A.iload_k 2 rfl rfl d_sv_fillRow_23 ?_
    refine A.iconst (v := 1) rfl d_sv_fillRow_24 ?_
    refine A.iadd d_sv_fillRow_25 ?_
    rw [nI_1]
    refine A.callV1 s_sv_36 ?_ (Nat.le_of_ble_eq_true rfl) (Nat.le_of_ble_eq_true rfl) (Nat.le_of_ble_eq_true rfl) d_sv_fillRow_26 rfl (c_sr_frontOf hC hws hq (by omega) ?_)
    · apply Exists.intro
      repeat first | assumption | exact up_s | refine up_e (by first | decide | omega) ?_
    dsimp only [psh]
    refine A.istore (Nat.le_of_ble_eq_true rfl) rfl d_sv_fillRow_29 ?_
    dsimp only [List.set]
    refine A.iload rfl d_sv_fillRow_31 ?_
    refine A.if_eq0 42 (by decide) d_sv_fillRow_33 ?_
    refine A.iload_k 2 rfl rfl d_sv_fillRow_42 ?_
    refine A.iconst (v := 2) rfl d_sv_fillRow_43 ?_
    refine A.iadd d_sv_fillRow_44 ?_
    refine A.istore (Nat.le_of_ble_eq_true rfl) rfl d_sv_fillRow_45 ?_
    dsimp only [List.set]
    refine A.iload_k 2 rfl rfl d_sv_fillRow_47 ?_
    refine A.iconst (v := 1) rfl d_sv_fillRow_48 ?_
    refine A.iadd d_sv_fillRow_49 ?_
    refine A.istore (Nat.le_of_ble_eq_true rfl) rfl d_sv_fillRow_50 ?_
    dsimp only [List.set]
    rw [nI_1]
    first | (have e : i + 1 = n - 1 := nI_inj (by omega) (by omega) c12; rw [nI_1]; exact init _ _ (by rw [if_pos (by omega)]; omega)) | (have e : ¬ i + 1 = n - 1 := fun z => c12 (by rw [z]); rw [show (2 : Int32) = nI 2 from rfl, nI_add]; exact init _ _ (by rw [if_neg (by omega)]))
  · refine A.iconst (v := 1) rfl d_sv_fillRow_15 ?_
    refine A.goto 20 (by decide) d_sv_fillRow_16 ?_
    refine A.istore (Nat.le_of_ble_eq_true rfl) rfl d_sv_fillRow_20 ?_
    dsimp only [List.set]
    refine A.aload_k 1 rfl rfl rfl d_sv_fillRow_22 ?_
    refine A.iload_k 2 rfl rfl d_sv_fillRow_23 ?_
    refine A.iconst (v := 1) rfl d_sv_fillRow_24 ?_
    refine A.iadd d_sv_fillRow_25 ?_
    rw [nI_1]
    refine A.callV1 s_sv_36 ?_ (Nat.le_of_ble_eq_true rfl) (Nat.le_of_ble_eq_true rfl) (Nat.le_of_ble_eq_true rfl) d_sv_fillRow_26 rfl (c_sr_frontOf hC hws hq (by omega) ?_)
    · apply Exists.intro
      repeat first | assumption | exact up_s | refine up_e (by first | decide | omega) ?_
    dsimp only [psh]
    refine A.istore (Nat.le_of_ble_eq_true rfl) rfl d_sv_fillRow_29 ?_
    dsimp only [List.set]
    refine A.iload rfl d_sv_fillRow_31 ?_
    refine A.if_eq1 d_sv_fillRow_33 (tgt := 42) (by decide) ?_
    refine A.iload_k 3 rfl rfl d_sv_fillRow_36 ?_
    refine A.iconst (v := 1) rfl d_sv_fillRow_37 ?_
    refine A.iadd d_sv_fillRow_38 ?_
    refine A.goto 45 (by decide) d_sv_fillRow_39 ?_
    refine A.istore (Nat.le_of_ble_eq_true rfl) rfl d_sv_fillRow_45 ?_
    dsimp only [List.set]
    refine A.iload_k 2 rfl rfl d_sv_fillRow_47 ?_
    refine A.iconst (v := 1) rfl d_sv_fillRow_48 ?_
    refine A.iadd d_sv_fillRow_49 ?_
    refine A.istore (Nat.le_of_ble_eq_true rfl) rfl d_sv_fillRow_50 ?_
    dsimp only [List.set]
    rw [nI_1]
    first | (have e : i + 1 = n - 1 := nI_inj (by omega) (by omega) c12; rw [nI_1]; exact init _ _ (by rw [if_pos (by omega)]; omega)) | (have e : ¬ i + 1 = n - 1 := fun z => c12 (by rw [z]); rw [show (2 : Int32) = nI 2 from rfl, nI_add]; exact init _ _ (by rw [if_neg (by omega)]))
theorem c_sv_measure {q τ n : Nat} (hC : CH G M np) (hw : WF M np) (hws : WS M np) (hq : q < 6) (hn : (strL M (nI q) np).length = n) (hn8 : n ≤ 8) (hn1 : 1 ≤ n) (hnt : n ≤ τ) (ht : τ ≤ 300) (hdd : ∀ k, k < n → ddM M (nI q) np k ≤ 60) (h : ∀ G', CH G' M np → FrC G G' → (∀ i, i < n → ∃ g, G' (60 + i) = some (aI 301 g) ∧ ∀ e, rng n τ i e → g e = nI (RR n τ (ddM M (nI q) np) (skM M q) i e)) → Q none G') : A 5 M_sv_measure 0 [some (.ref 27), some (.ref (40 + q)), some (.int (nI τ)), none, none] [] G kc ks Q := by
  obtain ⟨v1, ⟨f, v2, v3⟩, v4⟩ := hC.sv
  obtain ⟨g0, r0⟩ := v4 (n - 1) (by omega)
  obtain ⟨s1, s2, ⟨m, s3⟩, s4, s5⟩ := hC.str.2 q hq
  rw [hn] at s3
  have loop : ∀ (k : Nat) (G1 : AHp), k < n → CH G1 M np → FrC G G1 → (∀ i, k ≤ i → i < n → ∃ g, G1 (60 + i) = some (aI 301 g) ∧ ∀ e, rng n τ i e → g e = nI (RR n τ (ddM M (nI q) np) (skM M q) i e)) → A 5 M_sv_measure 46 [some (.ref 27), some (.ref (40 + q)), some (.int (nI τ)), some (.int (nI (n - 1))), some (.int (nI k - 1))] [] G1 kc ks Q := by
    intro k
    induction k with
    | zero =>
      intro G1 k1 hC1 hF1 hR
      refine A.iload rfl d_sv_measure_46 ?_
      refine A.if_lt 70 (by decide) d_sv_measure_48 (fun c48 => ?_) (fun c48 => ?_)
      · refine A.vret d_sv_measure_70 rfl ?_
        exact h G1 hC1 hF1 (fun i hi => hR i (by omega) hi)
      · exact absurd (by decide) c48
    | succ k ih =>
      intro G1 k1 hC1 hF1 hR
      rw [nI_pred]
      have hv1 := hC1.sv.1
      refine A.iload rfl d_sv_measure_46 ?_
      refine A.if_lt 70 (by decide) d_sv_measure_48 (fun c48 => ?_) (fun c48 => ?_)
      · exact absurd c48 (Int32.not_lt.mpr (nI_pos' (by omega)))
      refine A.aload_k 0 rfl rfl rfl d_sv_measure_51 ?_
      refine A.aload_k 1 rfl rfl rfl d_sv_measure_52 ?_
      refine A.iload rfl d_sv_measure_53 ?_
      refine A.iload_k 2 rfl rfl d_sv_measure_55 ?_
      refine A.iload_k 3 rfl rfl d_sv_measure_56 ?_
      refine A.iload rfl d_sv_measure_57 ?_
      refine A.isub d_sv_measure_59 ?_
      rw [pk_sub (by omega)]
      refine A.isub d_sv_measure_60 ?_
      rw [pk_sub (by omega), show τ - (n - 1 - k) = τ - (n - (k + 1)) by omega]
      refine A.callV3 s_sv_32 ?_ (Nat.le_of_ble_eq_true rfl) (Nat.le_of_ble_eq_true rfl) (Nat.le_of_ble_eq_true rfl) d_sv_measure_61 rfl (c_sv_fillRow hC1 hw hws hq hn hn8 (by omega) hnt ht hdd (hR (k + 1) (Nat.le_refl _) (by omega)) (fun g' hg => ?_))
      · apply Exists.intro
        repeat first | assumption | exact up_s | refine up_e (by first | decide | omega) ?_
      dsimp only [psh]
      refine A.iincm (n := 4) rfl (Nat.le_of_ble_eq_true rfl) d_sv_measure_64 ?_
      dsimp only [List.set]
      refine A.goto 46 (by decide) d_sv_measure_67 ?_
      refine ih _ (by omega) (hC1.row hw (by omega) g') (hF1.up (by omega) (by omega)) (fun i i1 i2 => ?_)
      by_cases c : i = k
      · subst c; exact ⟨g', up_s, hg⟩
      · rw [up_n (by omega)]; exact hR i (by omega) i2
  refine A.aload_k 1 rfl rfl rfl d_sv_measure_0 ?_
  apply A.getfield f_sv_16 d_sv_measure_1
  · repeat first | assumption | exact up_s | refine up_e (by omega) ?_
  · rfl
  refine A.callV0 s_sv_22 ?_ (Nat.le_of_ble_eq_true rfl) (Nat.le_of_ble_eq_true rfl) (Nat.le_of_ble_eq_true rfl) d_sv_measure_4 rfl (c_al_size (by repeat first | assumption | exact up_s | refine up_e (by omega) ?_) ?_)
  · apply Exists.intro
    repeat first | assumption | exact up_s | refine up_e (by omega) ?_
  dsimp only [psh]
  refine A.iconst (v := 1) rfl d_sv_measure_7 ?_
  refine A.isub d_sv_measure_8 ?_
  rw [nI_1s hn1 (by omega)]
  refine A.istore_k 3 rfl (Nat.le_of_ble_eq_true rfl) rfl d_sv_measure_9 ?_
  dsimp only [List.set]
  refine A.iload_k 3 rfl rfl d_sv_measure_10 ?_
  refine A.iconst (v := 0) rfl d_sv_measure_11 ?_
  refine A.bipush (v := 7) rfl d_sv_measure_12 ?_
  refine A.callS3 s_sv_28 (Nat.le_of_ble_eq_true rfl) (Nat.le_of_ble_eq_true rfl) (Nat.le_of_ble_eq_true rfl) d_sv_measure_14 rfl (c_af_within (fun i1 i2 => ?_) (fun i3 => absurd (nI_bt (n := 7) (by decide) (by omega) (by omega)) i3))
  dsimp only [psh]
  refine A.if_eq1 d_sv_measure_17 (tgt := 31) (by decide) ?_
  refine A.iload_k 2 rfl rfl d_sv_measure_20 ?_
  refine A.iconst (v := 1) rfl d_sv_measure_21 ?_
  refine A.sipush (v := 300) rfl d_sv_measure_22 ?_
  refine A.callS3 s_sv_28 (Nat.le_of_ble_eq_true rfl) (Nat.le_of_ble_eq_true rfl) (Nat.le_of_ble_eq_true rfl) d_sv_measure_25 rfl (c_af_within (fun i1 i2 => ?_) (fun i3 => absurd ⟨nI_le (a := 1) (by omega) (by omega), (nI_bt (n := 300) (by decide) ht (by omega)).2⟩ i3))
  dsimp only [psh]
  refine A.if_ne1 32 (by decide) d_sv_measure_28 ?_
  refine A.aload_k 0 rfl rfl rfl d_sv_measure_32 ?_
  apply A.getfield f_sv_11 d_sv_measure_33
  · repeat first | assumption | exact up_s | refine up_e (by omega) ?_
  · rfl
  refine A.iload_k 3 rfl rfl d_sv_measure_36 ?_
  apply A.aaload2 (j := n - 1) d_sv_measure_37
  · repeat first | assumption | exact up_s | refine up_e (by omega) ?_
  · exact ixn (by omega)
  · omega
  rw [v3 (n - 1) (by omega)]
  refine A.iload_k 2 rfl rfl d_sv_measure_38 ?_
  refine A.iconst (v := 0) rfl d_sv_measure_39 ?_
  apply A.iastore (j := τ) d_sv_measure_40
  · repeat first | assumption | exact up_s | refine up_e (by omega) ?_
  · first | decide | omega
  · exact ixn (by omega)
  · omega
  refine A.iload_k 3 rfl rfl d_sv_measure_41 ?_
  refine A.iconst (v := 1) rfl d_sv_measure_42 ?_
  refine A.isub d_sv_measure_43 ?_
  refine A.istore (Nat.le_of_ble_eq_true rfl) rfl d_sv_measure_44 ?_
  dsimp only [List.set]
  refine loop (n - 1) _ (by omega) (hC.row hw (by omega) _) (FrC.rf.up (by omega) (by omega)) (fun i i1 i2 => ?_)
  obtain rfl : i = n - 1 := by omega
  refine ⟨_, up_s, fun e he => ?_⟩
  obtain rfl : e = τ := he.2.2 (by omega)
  rw [upd_eq]
  unfold RR
  rw [if_pos (by omega)]
  rfl
theorem c_sv_endOf {q τ n i x : Nat} (hC : CH G M np) (hws : WS M np) (hq : q < 6) (hn : (strL M (nI q) np).length = n) (hn8 : n ≤ 8) (hnt : n ≤ τ) (ht : τ ≤ 300) (hdd : ∀ k, k < n → ddM M (nI q) np k ≤ 60) (hR : ∀ i, i < n → ∃ g, G (60 + i) = some (aI 301 g) ∧ ∀ e, rng n τ i e → g e = nI (RR n τ (ddM M (nI q) np) (skM M q) i e)) (hi : i < n) (hx : x + (n - i) ≤ τ) (hxi : i ≤ x) (h : Q (some (.int (nI (aF n τ (ddM M (nI q) np) (skM M q) i x)))) G) : A 4 M_sv_endOf 0 [some (.ref 27), some (.ref (40 + q)), some (.int (nI τ)), some (.int (nI i)), some (.int (nI x)), none] [] G kc ks Q := by
  have hsk : ∀ j z, j < n → skM M q j = some z → z ≤ 300 := fun j z _ e => by
    rcases skM_ok hws q j with ⟨-, e2⟩ | ⟨z', z1, -, z3⟩
    · rw [e2] at e; cases e
    · rw [z3] at e; cases e; exact z1
  obtain ⟨v1, ⟨f, v2, v3⟩, v4⟩ := hC.sv
  obtain ⟨g, r1, r2⟩ := hR i hi
  obtain ⟨s1, s2, ⟨m, s3⟩, s4, s5⟩ := hC.str.2 q hq
  rw [hn] at s3
  have hdx := hdd i hi
  unfold aF at h
  refine A.aload_k 1 rfl rfl rfl d_sv_endOf_0 ?_
  apply A.getfield f_sv_16 d_sv_endOf_1
  · repeat first | assumption | exact up_s | refine up_e (by first | decide | omega) ?_
  · rfl
  refine A.callV0 s_sv_22 ?_ (Nat.le_of_ble_eq_true rfl) (Nat.le_of_ble_eq_true rfl) (Nat.le_of_ble_eq_true rfl) d_sv_endOf_4 rfl (c_al_size (by repeat first | assumption | exact up_s | refine up_e (by first | decide | omega) ?_) ?_)
  · apply Exists.intro
    repeat first | assumption | exact up_s | refine up_e (by first | decide | omega) ?_
  dsimp only [psh]
  refine A.iconst (v := 1) rfl d_sv_endOf_7 ?_
  refine A.isub d_sv_endOf_8 ?_
  rw [nI_1s (by omega) (by omega)]
  refine A.istore (Nat.le_of_ble_eq_true rfl) rfl d_sv_endOf_9 ?_
  dsimp only [List.set]
  refine A.iload_k 3 rfl rfl d_sv_endOf_11 ?_
  refine A.iconst (v := 0) rfl d_sv_endOf_12 ?_
  refine A.iload rfl d_sv_endOf_13 ?_
  refine A.iconst (v := 1) rfl d_sv_endOf_15 ?_
  refine A.isub d_sv_endOf_16 ?_
  refine A.callS3 s_sv_28 (Nat.le_of_ble_eq_true rfl) (Nat.le_of_ble_eq_true rfl) (Nat.le_of_ble_eq_true rfl) d_sv_endOf_17 rfl (c_af_within (fun i1 i2 => ?_) (fun i3 => ?_))
  · dsimp only [psh]
    refine A.if_ne1 25 (by decide) d_sv_endOf_20 ?_
    have hne : ¬ i + 1 = n := fun z => by
      obtain ⟨y, y1, y2⟩ := in_np (by omega) i1 i2
      have := nI_inj (by omega) (by omega) y2
      omega
    refine A.aload_k 0 rfl rfl rfl d_sv_endOf_25 ?_
    apply A.getfield f_sv_11 d_sv_endOf_26
    · repeat first | assumption | exact up_s | refine up_e (by first | decide | omega) ?_
    · rfl
    refine A.iload_k 3 rfl rfl d_sv_endOf_29 ?_
    apply A.aaload2 (j := i) d_sv_endOf_30
    · repeat first | assumption | exact up_s | refine up_e (by first | decide | omega) ?_
    · exact ixn (by omega)
    · omega
    rw [v3 i (by omega)]
    refine A.iload rfl d_sv_endOf_31 ?_
    refine A.aload_k 1 rfl rfl rfl d_sv_endOf_33 ?_
    refine A.iload_k 3 rfl rfl d_sv_endOf_34 ?_
    refine A.callV1 s_sv_36 ?_ (Nat.le_of_ble_eq_true rfl) (Nat.le_of_ble_eq_true rfl) (Nat.le_of_ble_eq_true rfl) d_sv_endOf_35 rfl (c_sr_frontOf hC hws hq (by omega) ?_)
    · apply Exists.intro
      repeat first | assumption | exact up_s | refine up_e (by first | decide | omega) ?_
    dsimp only [psh]
    refine A.iadd d_sv_endOf_38 ?_
    refine A.iload rfl d_sv_endOf_39 ?_
    refine A.iconst (v := 1) rfl d_sv_endOf_41 ?_
    refine A.iadd d_sv_endOf_42 ?_
    refine A.iload_k 2 rfl rfl d_sv_endOf_43 ?_
    refine A.iload rfl d_sv_endOf_44 ?_
    refine A.iload_k 3 rfl rfl d_sv_endOf_46 ?_
    refine A.isub d_sv_endOf_47 ?_
    refine A.isub d_sv_endOf_48 ?_
    rw [nI_add, nI_1, pk_sub (show i ≤ n - 1 by omega), pk_sub (by omega), show τ - (n - 1 - i) = τ - (n - (i + 1)) by omega]
    refine A.callS4 s_sv_46 (Nat.le_of_ble_eq_true rfl) (Nat.le_of_ble_eq_true rfl) (Nat.le_of_ble_eq_true rfl) d_sv_endOf_49 rfl (c_sv_firstBest r1 (by omega) (by omega) (by omega) (fun e e1 e2 => ⟨r2 e ⟨by omega, by omega, fun z => absurd z hne⟩, Nat.lt_trans (RR_lt hn8 ht hdd hsk hi ⟨by omega, by omega, fun z => absurd z hne⟩) (by omega)⟩) ?_)
    dsimp only [psh]
    refine A.iret d_sv_endOf_52 rfl ?_
    rw [if_neg hne] at h
    exact h
  · dsimp only [psh]
    refine A.if_ne0 d_sv_endOf_20 (tgt := 25) (by decide) ?_
    refine A.iload_k 2 rfl rfl d_sv_endOf_23 ?_
    refine A.iret d_sv_endOf_24 rfl ?_
    rw [if_pos (Decidable.byContradiction (fun z => i3 ⟨nI_pos' (by omega), by rw [nI_1s (by omega) (by omega)]; exact nI_le (by omega) (by omega)⟩))] at h
    exact h
end SURVEY
