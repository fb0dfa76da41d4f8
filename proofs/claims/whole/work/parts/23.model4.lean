/-! the reference, on: bears, decree -/
section MODEL4
variable {M S : MS} {C : Nat → Int64} {G : AHp} {kc ks np : Nat} {Q : Option Value → AHp → Prop}
theorem c_md_bears {x k : Int32} (hM : MH G M S C) (hw : WF M np) (h1 : ∀ p j l b, p < np → x = nI p → M 7 p = nI l → l ≤ 3 → j ≤ l → k = nI j → ¬ (M 6 p = 2 ∨ M 6 p = 3) → b ≤ l → bldM M p (l + 1) = nI b → ∀ G' S' C', MH G' M S' C' → FrM G G' → Q (some (.int (parP M p l (nI b) (S 25) C j))) G')
    (h2 : ∀ p j l, p < np → x = nI p → M 7 p = nI l → l ≤ 3 → j ≤ l → k = nI j → ¬ (M 6 p = 2 ∨ M 6 p = 3) → bldM M p (l + 1) = -1 → Q (some (.int (-1))) G)
    (h0 : (∀ p j l, p < np → x = nI p → M 7 p = nI l → l ≤ 3 → j ≤ l → k = nI j → (M 6 p = 2 ∨ M 6 p = 3)) → Q (some (.int (-1))) G) : A 5 M_md_bears 0 [some (.ref 100), some (.int x), some (.int k)] [] G kc ks Q := by
  have hw' := hw
  obtain ⟨hn, hn2, hl, -⟩ := hw
  refine A.aload_k 0 rfl rfl rfl d_md_bears_0 ?_
  refine A.iload_k 1 rfl rfl d_md_bears_1 ?_
  refine A.iload_k 2 rfl rfl d_md_bears_2 ?_
  refine A.callV2 s_md_110 ?_ (Nat.le_of_ble_eq_true rfl) (Nat.le_of_ble_eq_true rfl) (Nat.le_of_ble_eq_true rfl) d_md_bears_3 rfl (c_md_isPlace hM hw' (fun p j l q1 q2 q3 q33 q4 q5 q6 => ?_) (fun q7 => ?_))
  · apply Exists.intro
    first | exact hM.1 | exact hM.2.1 _ rfl
  · dsimp only [psh]
    refine A.if_eq1 d_md_bears_6 (tgt := 27) (by decide) ?_
    subst q2
    subst q5
    refine A.aload_k 0 rfl rfl rfl d_md_bears_9 ?_
    refine A.iload_k 1 rfl rfl d_md_bears_10 ?_
    refine A.callV1 s_md_126 ?_ (Nat.le_of_ble_eq_true rfl) (Nat.le_of_ble_eq_true rfl) (Nat.le_of_ble_eq_true rfl) d_md_bears_11 rfl (c_md_parted hM hw' q1 q3 q33 (fun z => ?_) (fun b b1 b2 G' S' C' hM' hS hF => ?_))
    · apply Exists.intro
      first | exact hM.1 | exact hM.2.1 _ rfl
    · dsimp only [psh]
      refine A.iconst (v := -1) rfl d_md_bears_14 ?_
      refine A.icmp_eq 27 (by decide) d_md_bears_15 (fun c => ?_) (fun c => absurd (by decide) c)
      refine A.iconst (v := -1) rfl d_md_bears_27 ?_
      refine A.iret d_md_bears_28 rfl ?_
      first | exact h0 q7 | exact h1 p j l b q1 rfl q3 q33 q4 rfl q6 b1 b2 _ _ _ hM' hF | exact h2 p j l q1 rfl q3 q33 q4 rfl q6 z | exact absurd c15 (nI_nm1 (by omega))
    · dsimp only [psh]
      refine A.iconst (v := -1) rfl d_md_bears_14 ?_
      refine A.icmp_eq 27 (by decide) d_md_bears_15 (fun c15 => ?_) (fun c15 => ?_)
      · refine A.iconst (v := -1) rfl d_md_bears_27 ?_
        refine A.iret d_md_bears_28 rfl ?_
        first | exact h0 q7 | exact h1 p j l b q1 rfl q3 q33 q4 rfl q6 b1 b2 _ _ _ hM' hF | exact h2 p j l q1 rfl q3 q33 q4 rfl q6 z | exact absurd c15 (nI_nm1 (by omega))
      · refine A.aload_k 0 rfl rfl rfl d_md_bears_18 ?_
        apply A.getfield f_md_68 d_md_bears_19
        · exact hM'.1
        · rfl
        refine A.iload_k 2 rfl rfl d_md_bears_22 ?_
        apply A.iaload (j := j) d_md_bears_23
        · exact hM'.2.2.1 _ rfl
        · exact ixn (by omega)
        · show j < 4; omega
        rw [hS]
        refine A.goto 28 (by decide) d_md_bears_24 ?_
        refine A.iret d_md_bears_28 rfl ?_
        first | exact h0 q7 | exact h1 p j l b q1 rfl q3 q33 q4 rfl q6 b1 b2 _ _ _ hM' hF | exact h2 p j l q1 rfl q3 q33 q4 rfl q6 z | exact absurd c15 (nI_nm1 (by omega))
  · dsimp only [psh]
    refine A.if_eq0 27 (by decide) d_md_bears_6 ?_
    refine A.iconst (v := -1) rfl d_md_bears_27 ?_
    refine A.iret d_md_bears_28 rfl ?_
    first | exact h0 q7 | exact h1 p j l b q1 rfl q3 q33 q4 rfl q6 b1 b2 _ _ _ hM' hF | exact h2 p j l q1 rfl q3 q33 q4 rfl q6 z | exact absurd c15 (nI_nm1 (by omega))
def payC (M : MS) (p b o : Nat) (P : Nat → Int32) (c : Nat → Int32) : Nat → Nat → Int32
  | 0 => c
  | k + 1 => if nI k = nI b then payC M p b o P c k else
      upd (upd (payC M p b o P c k) (hN (M 8 (4 * p + k))) (payC M p b o P c k (hN (M 8 (4 * p + k))) - P k)) o (upd (payC M p b o P c k) (hN (M 8 (4 * p + k))) (payC M p b o P c k (hN (M 8 (4 * p + k))) - P k) o + P k)
theorem payC_s (M : MS) (p b o : Nat) (P c : Nat → Int32) (k : Nat) : payC M p b o P c (k + 1) = if nI k = nI b then payC M p b o P c k else
      upd (upd (payC M p b o P c k) (hN (M 8 (4 * p + k))) (payC M p b o P c k (hN (M 8 (4 * p + k))) - P k)) o (upd (payC M p b o P c k) (hN (M 8 (4 * p + k))) (payC M p b o P c k (hN (M 8 (4 * p + k))) - P k) o + P k) := rfl
def lstY (Y : Nat → Int32) (p b k : Nat) : Int32 := if nI k = nI b then 40 else Y (4 * p + k + 1)
def yrD (Y : Nat → Int32) (p b : Nat) : Nat → Nat → Int32
  | 0 => Y
  | j + 1 => if lstY (yrD Y p b j) p b (b - j) ≤ yrD Y p b j (4 * p + (b - j)) then yrD Y p b j else upd (yrD Y p b j) (4 * p + (b - j)) (lstY (yrD Y p b j) p b (b - j))
theorem yrD_s (Y : Nat → Int32) (p b j : Nat) : yrD Y p b (j + 1) = if lstY (yrD Y p b j) p b (b - j) ≤ yrD Y p b j (4 * p + (b - j)) then yrD Y p b j else upd (yrD Y p b j) (4 * p + (b - j)) (lstY (yrD Y p b j) p b (b - j)) := rfl
def mDec1 (M : MS) (p l b o : Nat) (P : Nat → Int32) : MS := va_up (va_up (va_up (va_up (va_up M 1 (payC M p b o P (upd (M 1) o (M 1 o - cstM M p)) (l + 1))) 9 (yrD (M 9) p b b)) 6 (upd (M 6) p 1)) 11 (upd (M 11) p (nI o))) 12 (upd (M 12) p (M 0 0))
def wallI (M : MS) (x z : Int32) (o : Nat) : MS := if x = -1 ∨ z = -1 ∨ (M 6 (hN x) = 2 ∨ M 6 (hN x) = 3) ∨ (M 6 (hN z) = 2 ∨ M 6 (hN z) = 3) then M else mWall M (hN x) (hN z) o
theorem c_md_wallI {x z : Int32} {o : Nat} (hM : MH G M S C) (hw : WF M np) (ho : o < 20) (hx : x = -1 ∨ ∃ a, a < np ∧ x = nI a) (hz : z = -1 ∨ ∃ b, b < np ∧ z = nI b) (h : ∀ G', MH G' (wallI M x z o) S C → FrM G G' → Q none G') : A 1 M_md_wall 0 [some (.ref 100), some (.int x), some (.int z), some (.int (nI o))] [] G kc ks Q := by
  have hn2 := hw.2.1
  refine c_md_wall hM hw ho hx hz (fun y => ?_) (fun a b ha hb e1 e2 g1 g2 G' hM' hF => ?_)
  · refine h G ?_ FrM.rf
    unfold wallI
    rw [if_pos]
    · exact hM
    · rcases y with y | y | ⟨a, ha, e, g⟩ | ⟨b, hb, e, g⟩
      · exact Or.inl y
      · exact Or.inr (Or.inl y)
      · rw [e, hN_nI (by omega)]; exact Or.inr (Or.inr (Or.inl g))
      · rw [e, hN_nI (by omega)]; exact Or.inr (Or.inr (Or.inr g))
  · refine h G' ?_ hF
    unfold wallI
    rw [e1, e2, hN_nI (by omega), hN_nI (by omega), if_neg]
    · exact hM'
    · rintro (y | y | y | y)
      · exact nI_nm1 (by omega) y
      · exact nI_nm1 (by omega) y
      · exact g1 y
      · exact g2 y
theorem WF.up {k : Nat} (h : WF M np) (f : Nat → Int32) (h2 : k ≠ 2) (h7 : k ≠ 7) (h8 : k ≠ 8) (h14 : k ≠ 14) (h19 : k ≠ 19) : WF (va_up M k f) np := by
  have e : ∀ j, j ≠ k → va_up M k f j = M j := fun j hj => if_neg hj
  unfold WF
  rw [e 2 (Ne.symm h2), e 7 (Ne.symm h7), e 8 (Ne.symm h8), e 14 (Ne.symm h14), e 19 (Ne.symm h19)]
  exact h
theorem WF.wall {x z : Int32} {o : Nat} (h : WF M np) (ho : o < 20) : WF (wallI M x z o) np := by
  unfold wallI
  by_cases c : x = -1 ∨ z = -1 ∨ (M 6 (hN x) = 2 ∨ M 6 (hN x) = 3) ∨ (M 6 (hN z) = 2 ∨ M 6 (hN z) = 3)
  · rw [if_pos c]; exact h
  · rw [if_neg c]
    unfold mWall
    by_cases c2 : M 14 (hN x) = -1
    · rw [if_pos c2]
      refine WF.up (WF.up ?_ _ (by decide) (by decide) (by decide) (by decide) (by decide)) _ (by decide) (by decide) (by decide) (by decide) (by decide)
      obtain ⟨y1, y2, y3, y4, y5, y6⟩ := h
      refine ⟨y1, y2, y3, y4, fun p => ?_, y6⟩
      show upd (M 14) (hN x) (nI o) p = -1 ∨ ∃ h, h < 20 ∧ upd (M 14) (hN x) (nI o) p = nI h
      by_cases e : p = hN x
      · subst e; rw [pk_us]; exact Or.inr ⟨o, ho, rfl⟩
      · rw [pk_un e]; exact y5 p
    · rw [if_neg c2]
      exact WF.up h _ (by decide) (by decide) (by decide) (by decide) (by decide)
theorem befM_congr {M' : MS} (h : M' 3 = M 3) (p : Nat) : ∀ n, befM M' p n = befM M p n
  | 0 => rfl
  | n + 1 => by unfold befM; rw [h, befM_congr h p n]
theorem behM_congr {M' : MS} (h : M' 3 = M 3) (p : Nat) : ∀ n i, behM M' p n i = behM M p n i
  | 0, _ => rfl
  | n + 1, i => by unfold behM; rw [h, behM_congr h p n]
theorem befM_in (M : MS) (p : Nat) : ∀ n, befM M p n = -1 ∨ ∃ a, a < n ∧ befM M p n = nI a
  | 0 => Or.inl rfl
  | n + 1 => by
    unfold befM
    by_cases h : M 3 n = M 3 p
    · rw [if_pos h]; exact Or.inr ⟨n, by omega, rfl⟩
    · rw [if_neg h]
      rcases befM_in M p n with e | ⟨a, h1, h2⟩
      · exact Or.inl e
      · exact Or.inr ⟨a, by omega, h2⟩
theorem behM_in (M : MS) (p : Nat) : ∀ n i, behM M p n i = -1 ∨ ∃ a, i ≤ a ∧ a < i + n ∧ behM M p n i = nI a
  | 0, _ => Or.inl rfl
  | n + 1, i => by
    unfold behM
    by_cases h : M 3 i = M 3 p
    · rw [if_pos h]; exact Or.inr ⟨i, by omega, by omega, rfl⟩
    · rw [if_neg h]
      rcases behM_in M p n (i + 1) with e | ⟨a, h1, h2, h3⟩
      · exact Or.inl e
      · exact Or.inr ⟨a, by omega, by omega, h3⟩
theorem wallI_3 (x z : Int32) (o : Nat) : wallI M x z o 3 = M 3 := by
  unfold wallI
  by_cases c : x = -1 ∨ z = -1 ∨ (M 6 (hN x) = 2 ∨ M 6 (hN x) = 3) ∨ (M 6 (hN z) = 2 ∨ M 6 (hN z) = 3)
  · rw [if_pos c]
  · rw [if_neg c]
    unfold mWall
    by_cases c2 : M 14 (hN x) = -1
    · rw [if_pos c2]; rfl
    · rw [if_neg c2]; rfl
def mDec (M : MS) (np p l b o : Nat) (P : Nat → Int32) : MS := wallI (wallI (mDec1 M p l b o P) (befM M p p) (nI p) o) (nI p) (behM M p (np - (p + 1)) (p + 1)) o
theorem c_md_decree {x : Int32} (hM : MH G M S C) (hw : WF M np)
    (h0 : ¬ (∃ p, p < np ∧ x = nI p ∧ M 6 p = 0) → Q (some (.int (-1))) G)
    (h2 : ∀ p l, p < np → x = nI p → M 6 p = 0 → M 7 p = nI l → l ≤ 3 → bldM M p (l + 1) = -1 → Q (some (.int (-1))) G)
    (h1 : ∀ p l b o, p < np → x = nI p → M 6 p = 0 → M 7 p = nI l → l ≤ 3 → b ≤ l → bldM M p (l + 1) = nI b → o < 20 → M 8 (4 * p + b) = nI o → ∀ G' S' C', MH G' (mDec M np p l b o (parP M p l (nI b) (S 25) C)) S' C' → FrM G G' → Q (some (.int (nI b))) G') : A 5 M_md_decree 0 [some (.ref 100), some (.int x), none, none, none, none] [] G kc ks Q := by
  have hw' := hw
  obtain ⟨hn, hn2, hl, hh, -⟩ := hw
  have dec2 : ∀ (p l b : Nat) (G' : AHp) (S' : MS) (C' : Nat → Int64), p < np → x = nI p → M 6 p = 0 → M 7 p = nI l → l ≤ 3 → b ≤ l → bldM M p (l + 1) = nI b → MH G' M S' C' → S' 25 = parP M p l (nI b) (S 25) C → FrM G G' → A 5 M_md_decree 32 [some (.ref 100), some (.int (nI p)), some (.int (nI b)), none, none, none] [] G' kc ks Q := by
    intro p l b G1 S1 C1 hp ex hst el hl3 hb hbld hM1 hS1 hF1
    obtain ⟨o, ho, eo⟩ := hh (4 * p + b)
    have h1 := h1 p l b o hp ex hst el hl3 hb hbld ho eo
    generalize hP : parP M p l (nI b) (S 25) C = P at h1 hS1
    clear h0 h2 hbld hst ex
    have ep : (nI p).toInt = (p : Int) := ixn (by omega)
    -- the years of the builder's lease and of those above
    have loopY : ∀ (k j : Nat) (G2 : AHp) (S2 : MS) (C2 : Nat → Int64) (v5 : Option Value) (co : Nat → Int32), k + j = b → MH G2 (va_up (va_up M 1 co) 9 (yrD (M 9) p b j)) S2 C2 → FrM G G2 → co = payC M p b o P (upd (M 1) o (M 1 o - cstM M p)) (l + 1) → A 5 M_md_decree 131 [some (.ref 100), some (.int (nI p)), some (.int (nI b)), some (.int (nI o)), some (.int (nI k)), v5] [] G2 kc ks Q := by
      intro k
      induction k with
      | zero =>
        intro j G2 S2 C2 v5 co hk hM2 hF2 hco
        have ej : j = b := by omega
        subst ej
        have wf2 : WF (va_up (va_up M 1 co) 9 (yrD (M 9) p j j)) np := (hw'.up _ (by decide) (by decide) (by decide) (by decide) (by decide)).up _ (by decide) (by decide) (by decide) (by decide) (by decide)
        have wf3 : WF (mDec1 M p l j o P) np := by
          unfold mDec1
          rw [← hco]
          exact ((wf2.up _ (by decide) (by decide) (by decide) (by decide) (by decide)).up _ (by decide) (by decide) (by decide) (by decide) (by decide)).up _ (by decide) (by decide) (by decide) (by decide) (by decide)
        have hM3 : ∀ G3, MH G3 (va_up (va_up (va_up (va_up (va_up M 1 co) 9 (yrD (M 9) p j j)) 6 (upd (M 6) p 1)) 11 (upd (M 11) p (nI o))) 12 (upd (M 12) p (M 0 0))) S2 C2 → MH G3 (mDec1 M p l j o P) S2 C2 := fun G3 h3 => by
          unfold mDec1
          rw [← hco]
          exact h3
        refine A.iload rfl d_md_decree_131 ?_
        refine A.if_le 197 (by decide) d_md_decree_133 (fun c133 => ?_) (fun c133 => ?_)
        · refine A.aload_k 0 rfl rfl rfl d_md_decree_197 ?_
          apply A.getfield f_md_22 d_md_decree_198
          · repeat first | exact up_s | refine up_e (by decide) ?_ | exact hM2.1 | exact hM2.2.1 _ rfl
          · rfl
          refine A.iload_k 1 rfl rfl d_md_decree_201 ?_
          refine A.iconst (v := 1) rfl d_md_decree_202 ?_
          apply A.iastore (j := p) d_md_decree_203
          · repeat first | exact up_s | refine up_e (by decide) ?_ | exact hM2.1 | exact hM2.2.1 _ rfl
          · first | decide | omega
          · exact ep
          · show p < 24; omega
          refine A.aload_k 0 rfl rfl rfl d_md_decree_204 ?_
          apply A.getfield f_md_37 d_md_decree_205
          · repeat first | exact up_s | refine up_e (by decide) ?_ | exact hM2.1 | exact hM2.2.1 _ rfl
          · rfl
          refine A.iload_k 1 rfl rfl d_md_decree_208 ?_
          refine A.iload_k 3 rfl rfl d_md_decree_209 ?_
          apply A.iastore (j := p) d_md_decree_210
          · repeat first | exact up_s | refine up_e (by decide) ?_ | exact hM2.1 | exact hM2.2.1 _ rfl
          · first | decide | omega
          · exact ep
          · show p < 24; omega
          refine A.aload_k 0 rfl rfl rfl d_md_decree_211 ?_
          apply A.getfield f_md_40 d_md_decree_212
          · repeat first | exact up_s | refine up_e (by decide) ?_ | exact hM2.1 | exact hM2.2.1 _ rfl
          · rfl
          refine A.iload_k 1 rfl rfl d_md_decree_215 ?_
          refine A.aload_k 0 rfl rfl rfl d_md_decree_216 ?_
          apply A.getfield f_md_129 d_md_decree_217
          · repeat first | exact up_s | refine up_e (by decide) ?_ | exact hM2.1 | exact hM2.2.1 _ rfl
          · rfl
          apply A.iastore (j := p) d_md_decree_220
          · repeat first | exact up_s | refine up_e (by decide) ?_ | exact hM2.1 | exact hM2.2.1 _ rfl
          · first | decide | omega
          · exact ep
          · show p < 24; omega
          have hM4 := hM3 _ (((hM2.arr 6 rfl (upd (M 6) p 1)).arr 11 rfl (upd (M 11) p (nI o))).arr 12 rfl (upd (M 12) p (M 0 0)))
          have hF4 : FrM G _ := ((hF2.up (b := 206) (c := aI 24 (upd (M 6) p 1)) (by decide) (by decide)).up (b := 211) (c := aI 24 (upd (M 11) p (nI o))) (by decide) (by decide)).up (b := 212) (c := aI 24 (upd (M 12) p (M 0 0))) (by decide) (by decide)
          have e3 : mDec1 M p l j o P 3 = M 3 := rfl
          refine A.aload_k 0 rfl rfl rfl d_md_decree_221 ?_
          refine A.aload_k 0 rfl rfl rfl d_md_decree_222 ?_
          refine A.iload_k 1 rfl rfl d_md_decree_223 ?_
          refine A.callV1 s_md_132 ?_ (Nat.le_of_ble_eq_true rfl) (Nat.le_of_ble_eq_true rfl) (Nat.le_of_ble_eq_true rfl) d_md_decree_224 rfl (c_md_before hM4 (by omega) ?_)
          · apply Exists.intro
            exact hM4.1
          dsimp only [psh]
          rw [befM_congr e3]
          refine A.iload_k 1 rfl rfl d_md_decree_227 ?_
          refine A.iload_k 3 rfl rfl d_md_decree_228 ?_
          refine A.callV3 s_md_135 ?_ (Nat.le_of_ble_eq_true rfl) (Nat.le_of_ble_eq_true rfl) (Nat.le_of_ble_eq_true rfl) d_md_decree_229 rfl (c_md_wallI hM4 wf3 ho ((befM_in M p p).imp_right (fun z => by obtain ⟨a, y1, y2⟩ := z; exact ⟨a, by omega, y2⟩)) (Or.inr ⟨p, hp, rfl⟩) (fun G5 hM5 hF5 => ?_))
          · apply Exists.intro
            exact hM4.1
          dsimp only [psh]
          refine A.aload_k 0 rfl rfl rfl d_md_decree_232 ?_
          refine A.iload_k 1 rfl rfl d_md_decree_233 ?_
          refine A.aload_k 0 rfl rfl rfl d_md_decree_234 ?_
          refine A.iload_k 1 rfl rfl d_md_decree_235 ?_
          refine A.callV1 s_md_139 ?_ (Nat.le_of_ble_eq_true rfl) (Nat.le_of_ble_eq_true rfl) (Nat.le_of_ble_eq_true rfl) d_md_decree_236 rfl (c_md_behind hM5 (wf3.wall ho).1 hn2 hp ?_)
          · apply Exists.intro
            exact hM5.1
          dsimp only [psh]
          rw [behM_congr ((wallI_3 _ _ _).trans e3)]
          refine A.iload_k 3 rfl rfl d_md_decree_239 ?_
          refine A.callV3 s_md_135 ?_ (Nat.le_of_ble_eq_true rfl) (Nat.le_of_ble_eq_true rfl) (Nat.le_of_ble_eq_true rfl) d_md_decree_240 rfl (c_md_wallI hM5 (wf3.wall ho) ho (Or.inr ⟨p, hp, rfl⟩) ((behM_in M p _ _).imp_right (fun z => by obtain ⟨a, y1, y2, y3⟩ := z; exact ⟨a, by omega, y3⟩)) (fun G6 hM6 hF6 => ?_))
          · apply Exists.intro
            exact hM5.1
          dsimp only [psh]
          refine A.iload_k 2 rfl rfl d_md_decree_243 ?_
          refine A.iret d_md_decree_244 rfl ?_
          exact h1 G6 S2 C2 hM6 ((hF4.tr hF5).tr hF6)
        · exact absurd (by decide) c133
      | succ k ih =>
        intro j G2 S2 C2 v5 co hk hM2 hF2 hco
        have ej : b - j = k + 1 := by omega
        have J : ∀ v : Int32, v = lstY (yrD (M 9) p b j) p b (k + 1) → A 5 M_md_decree 160 [some (.ref 100), some (.int (nI p)), some (.int (nI b)), some (.int (nI o)), some (.int (nI (k + 1))), v5] [.int v] G2 kc ks Q := by
          intro v hv
          refine A.istore (Nat.le_of_ble_eq_true rfl) rfl d_md_decree_160 ?_
          dsimp only [List.set]
          refine A.aload_k 0 rfl rfl rfl d_md_decree_162 ?_
          apply A.getfield f_md_31 d_md_decree_163
          · repeat first | exact up_s | refine up_e (by decide) ?_ | exact hM2.1 | exact hM2.2.1 _ rfl
          · rfl
          refine A.iconst (v := 4) rfl d_md_decree_166 ?_
          refine A.iload_k 1 rfl rfl d_md_decree_167 ?_
          refine A.imul d_md_decree_168 ?_
          refine A.iload rfl d_md_decree_169 ?_
          refine A.iadd d_md_decree_171 ?_
          apply A.iaload (j := 4 * p + (k + 1)) d_md_decree_172
          · repeat first | exact up_s | refine up_e (by decide) ?_ | exact hM2.1 | exact hM2.2.1 _ rfl
          · exact ix4 (by omega) (by omega)
          · show 4 * p + (k + 1) < 96; omega
          refine A.iload rfl d_md_decree_173 ?_
          refine A.icmp_ge 191 (by decide) d_md_decree_175 (fun c175 => ?_) (fun c175 => ?_)
          · refine A.iincm (n := 4) rfl (Nat.le_of_ble_eq_true rfl) d_md_decree_191 ?_
            dsimp only [List.set]
            refine A.goto 131 (by decide) d_md_decree_194 ?_
            rw [nI_pred]
            refine ih (j + 1) _ S2 C2 _ co (by omega) ?_ (by first | exact hF2 | exact hF2.up (by decide) (by decide)) hco
            rw [yrD_s, ej]
            subst hv
            first | (rw [if_pos (show lstY (yrD (M 9) p b j) p b (k + 1) ≤ yrD (M 9) p b j (4 * p + (k + 1)) from c175)]; exact hM2) | (rw [if_neg (show ¬ lstY (yrD (M 9) p b j) p b (k + 1) ≤ yrD (M 9) p b j (4 * p + (k + 1)) from c175)]; have z := hM2.arr 9 rfl (upd (yrD (M 9) p b j) (4 * p + (k + 1)) (lstY (yrD (M 9) p b j) p b (k + 1))); rw [bx_uu] at z; exact z)
          · refine A.aload_k 0 rfl rfl rfl d_md_decree_178 ?_
            apply A.getfield f_md_31 d_md_decree_179
            · repeat first | exact up_s | refine up_e (by decide) ?_ | exact hM2.1 | exact hM2.2.1 _ rfl
            · rfl
            refine A.iconst (v := 4) rfl d_md_decree_182 ?_
            refine A.iload_k 1 rfl rfl d_md_decree_183 ?_
            refine A.imul d_md_decree_184 ?_
            refine A.iload rfl d_md_decree_185 ?_
            refine A.iadd d_md_decree_187 ?_
            refine A.iload rfl d_md_decree_188 ?_
            apply A.iastore (j := 4 * p + (k + 1)) d_md_decree_190
            · repeat first | exact up_s | refine up_e (by decide) ?_ | exact hM2.1 | exact hM2.2.1 _ rfl
            · first | decide | omega
            · exact ix4 (by omega) (by omega)
            · show 4 * p + (k + 1) < 96; omega
            refine A.iincm (n := 4) rfl (Nat.le_of_ble_eq_true rfl) d_md_decree_191 ?_
            dsimp only [List.set]
            refine A.goto 131 (by decide) d_md_decree_194 ?_
            rw [nI_pred]
            refine ih (j + 1) _ S2 C2 _ co (by omega) ?_ (by first | exact hF2 | exact hF2.up (by decide) (by decide)) hco
            rw [yrD_s, ej]
            subst hv
            first | (rw [if_pos (show lstY (yrD (M 9) p b j) p b (k + 1) ≤ yrD (M 9) p b j (4 * p + (k + 1)) from c175)]; exact hM2) | (rw [if_neg (show ¬ lstY (yrD (M 9) p b j) p b (k + 1) ≤ yrD (M 9) p b j (4 * p + (k + 1)) from c175)]; have z := hM2.arr 9 rfl (upd (yrD (M 9) p b j) (4 * p + (k + 1)) (lstY (yrD (M 9) p b j) p b (k + 1))); rw [bx_uu] at z; exact z)
        refine A.iload rfl d_md_decree_131 ?_
        refine A.if_le 197 (by decide) d_md_decree_133 (fun c133 => ?_) (fun c133 => ?_)
        · exact absurd c133 (nI_nle (by omega) (by omega))
        refine A.iload rfl d_md_decree_136 ?_
        refine A.iload_k 2 rfl rfl d_md_decree_138 ?_
        refine A.icmp_ne 147 (by decide) d_md_decree_139 (fun c139 => ?_) (fun c139 => ?_)
        · have hk3 : k + 1 < b := by
            rcases Nat.lt_or_ge (k + 1) b with y | y
            · exact y
            · have : k + 1 = b := by omega
              exact absurd (by rw [this]) c139
          refine A.aload_k 0 rfl rfl rfl d_md_decree_147 ?_
          apply A.getfield f_md_31 d_md_decree_148
          · repeat first | exact up_s | refine up_e (by decide) ?_ | exact hM2.1 | exact hM2.2.1 _ rfl
          · rfl
          refine A.iconst (v := 4) rfl d_md_decree_151 ?_
          refine A.iload_k 1 rfl rfl d_md_decree_152 ?_
          refine A.imul d_md_decree_153 ?_
          refine A.iload rfl d_md_decree_154 ?_
          refine A.iadd d_md_decree_156 ?_
          refine A.iconst (v := 1) rfl d_md_decree_157 ?_
          refine A.iadd d_md_decree_158 ?_
          apply A.iaload (j := 4 * p + (k + 1) + 1) d_md_decree_159
          · repeat first | exact up_s | refine up_e (by decide) ?_ | exact hM2.1 | exact hM2.2.1 _ rfl
          · exact ix4s (by omega) (by omega)
          · show 4 * p + (k + 1) + 1 < 96; omega
          refine J _ ?_
          unfold lstY
          first | (rw [if_pos c139]) | (rw [if_neg c139]; rfl)
        · refine A.bipush (v := 40) rfl d_md_decree_142 ?_
          refine A.goto 160 (by decide) d_md_decree_144 ?_
          refine J _ ?_
          unfold lstY
          first | (rw [if_pos c139]) | (rw [if_neg c139]; rfl)
    -- each other one pays to the builder
    have loopP : ∀ (k i : Nat) (G2 : AHp) (S2 : MS) (C2 : Nat → Int64), i + k = l + 2 → 1 ≤ k → MH G2 (va_up M 1 (payC M p b o P (upd (M 1) o (M 1 o - cstM M p)) i)) S2 C2 → S2 25 = P → FrM G G2 → A 5 M_md_decree 60 [some (.ref 100), some (.int (nI p)), some (.int (nI b)), some (.int (nI o)), some (.int (nI i)), none] [] G2 kc ks Q := by
      intro k
      induction k with
      | zero => intro i G2 S2 C2 _ y2; omega
      | succ k ih =>
        intro i G2 S2 C2 hk _ hM2 hS2 hF2
        refine A.iload rfl d_md_decree_60 ?_
        refine A.aload_k 0 rfl rfl rfl d_md_decree_62 ?_
        apply A.getfield f_md_25 d_md_decree_63
        · repeat first | exact up_s | refine up_e (by decide) ?_ | exact hM2.1 | exact hM2.2.1 _ rfl | exact hM2.2.2.1 _ rfl
        · rfl
        refine A.iload_k 1 rfl rfl d_md_decree_66 ?_
        apply A.iaload (j := p) d_md_decree_67
        · repeat first | exact up_s | refine up_e (by decide) ?_ | exact hM2.1 | exact hM2.2.1 _ rfl | exact hM2.2.2.1 _ rfl
        · exact ep
        · show p < 24; omega
        rw [show va_up M 1 (payC M p b o P (upd (M 1) o (M 1 o - cstM M p)) i) 7 p = nI l from el]
        refine A.icmp_gt 128 (by decide) d_md_decree_68 (fun c68 => ?_) (fun c68 => ?_)
        · refine A.iload_k 2 rfl rfl d_md_decree_128 ?_
          refine A.istore (Nat.le_of_ble_eq_true rfl) rfl d_md_decree_129 ?_
          dsimp only [List.set]
          have y3 : i = l + 1 := by
            have := (nI_ltI (by omega) (by omega)).mp c68
            omega
          subst y3
          refine loopY b 0 G2 S2 C2 none _ (by omega) ?_ hF2 rfl
          have e9 : va_up (va_up M 1 (payC M p b o P (upd (M 1) o (M 1 o - cstM M p)) (l + 1))) 9 (yrD (M 9) p b 0) = va_up M 1 (payC M p b o P (upd (M 1) o (M 1 o - cstM M p)) (l + 1)) := by
            funext q
            show (if q = 9 then M 9 else _) = _
            by_cases e : q = 9
            · rw [if_pos e, e]; rfl
            · rw [if_neg e]
          rw [e9]
          exact hM2
        · have y3 : i ≤ l := Nat.le_of_not_lt (fun z => c68 (nI_lt z (by omega)))
          refine A.iload rfl d_md_decree_71 ?_
          refine A.iload_k 2 rfl rfl d_md_decree_73 ?_
          refine A.icmp_ne 80 (by decide) d_md_decree_74 (fun c74 => ?_) (fun c74 => ?_)
          · obtain ⟨w, hw1, hw2⟩ := hh (4 * p + i)
            refine A.aload_k 0 rfl rfl rfl d_md_decree_80 ?_
            apply A.getfield f_md_9 d_md_decree_81
            · repeat first | exact up_s | refine up_e (by decide) ?_ | exact hM2.1 | exact hM2.2.1 _ rfl | exact hM2.2.2.1 _ rfl
            · rfl
            refine A.aload_k 0 rfl rfl rfl d_md_decree_84 ?_
            apply A.getfield f_md_28 d_md_decree_85
            · repeat first | exact up_s | refine up_e (by decide) ?_ | exact hM2.1 | exact hM2.2.1 _ rfl | exact hM2.2.2.1 _ rfl
            · rfl
            refine A.iconst (v := 4) rfl d_md_decree_88 ?_
            refine A.iload_k 1 rfl rfl d_md_decree_89 ?_
            refine A.imul d_md_decree_90 ?_
            refine A.iload rfl d_md_decree_91 ?_
            refine A.iadd d_md_decree_93 ?_
            apply A.iaload (j := 4 * p + i) d_md_decree_94
            · repeat first | exact up_s | refine up_e (by decide) ?_ | exact hM2.1 | exact hM2.2.1 _ rfl | exact hM2.2.2.1 _ rfl
            · exact ix4 (by omega) (by omega)
            · show 4 * p + i < 96; omega
            refine A.dup2 rfl rfl d_md_decree_95 ?_
            apply A.iaload (j := hN (M 8 (4 * p + i))) d_md_decree_96
            · repeat first | exact up_s | refine up_e (by decide) ?_ | exact hM2.1 | exact hM2.2.1 _ rfl | exact hM2.2.2.1 _ rfl
            · show (M 8 (4 * p + i)).toInt = _; rw [hw2, hN_nI (by omega)]; exact ixn (by omega)
            · rw [hw2, hN_nI (by omega)]; exact hw1
            refine A.aload_k 0 rfl rfl rfl d_md_decree_97 ?_
            apply A.getfield f_md_68 d_md_decree_98
            · repeat first | exact up_s | refine up_e (by decide) ?_ | exact hM2.1 | exact hM2.2.1 _ rfl | exact hM2.2.2.1 _ rfl
            · rfl
            refine A.iload rfl d_md_decree_101 ?_
            apply A.iaload (j := i) d_md_decree_103
            · repeat first | exact up_s | refine up_e (by decide) ?_ | exact hM2.1 | exact hM2.2.1 _ rfl | exact hM2.2.2.1 _ rfl
            · exact ixn (by omega)
            · show i < 4; omega
            rw [hS2]
            refine A.isub d_md_decree_104 ?_
            apply A.iastore (j := hN (M 8 (4 * p + i))) d_md_decree_105
            · repeat first | exact up_s | refine up_e (by decide) ?_ | exact hM2.1 | exact hM2.2.1 _ rfl | exact hM2.2.2.1 _ rfl
            · first | decide | omega
            · show (M 8 (4 * p + i)).toInt = _; rw [hw2, hN_nI (by omega)]; exact ixn (by omega)
            · rw [hw2, hN_nI (by omega)]; exact hw1
            refine A.aload_k 0 rfl rfl rfl d_md_decree_106 ?_
            apply A.getfield f_md_9 d_md_decree_107
            · repeat first | exact up_s | refine up_e (by decide) ?_ | exact hM2.1 | exact hM2.2.1 _ rfl | exact hM2.2.2.1 _ rfl
            · rfl
            refine A.iload_k 3 rfl rfl d_md_decree_110 ?_
            refine A.dup2 rfl rfl d_md_decree_111 ?_
            apply A.iaload (j := o) d_md_decree_112
            · repeat first | exact up_s | refine up_e (by decide) ?_ | exact hM2.1 | exact hM2.2.1 _ rfl | exact hM2.2.2.1 _ rfl
            · exact ixn (by omega)
            · exact ho
            refine A.aload_k 0 rfl rfl rfl d_md_decree_113 ?_
            apply A.getfield f_md_68 d_md_decree_114
            · repeat first | exact up_s | refine up_e (by decide) ?_ | exact hM2.1 | exact hM2.2.1 _ rfl | exact hM2.2.2.1 _ rfl
            · rfl
            refine A.iload rfl d_md_decree_117 ?_
            apply A.iaload (j := i) d_md_decree_119
            · repeat first | exact up_s | refine up_e (by decide) ?_ | exact hM2.1 | exact hM2.2.1 _ rfl | exact hM2.2.2.1 _ rfl
            · exact ixn (by omega)
            · show i < 4; omega
            rw [hS2]
            refine A.iadd d_md_decree_120 ?_
            apply A.iastore (j := o) d_md_decree_121
            · repeat first | exact up_s | refine up_e (by decide) ?_ | exact hM2.1 | exact hM2.2.1 _ rfl | exact hM2.2.2.1 _ rfl
            · first | decide | omega
            · exact ixn (by omega)
            · exact ho
            refine A.iincp (n := 4) rfl (Nat.le_of_ble_eq_true rfl) d_md_decree_122 ?_
            dsimp only [List.set]
            refine A.goto 60 (by decide) d_md_decree_125 ?_
            rw [nI_1]
            refine ih (i + 1) _ S2 C2 (by omega) (by omega) ?_ hS2 (by first | exact hF2 | exact (hF2.up (by decide) (by decide)).up (by decide) (by decide))
            rw [payC_s]
            first | (rw [if_pos c74]; exact hM2) | (rw [if_neg c74]; have z := hM2.arr2 1 rfl (aI 20 (upd (payC M p b o P (upd (M 1) o (M 1 o - cstM M p)) i) (hN (M 8 (4 * p + i))) (payC M p b o P (upd (M 1) o (M 1 o - cstM M p)) i (hN (M 8 (4 * p + i))) - P i))) (upd (upd (payC M p b o P (upd (M 1) o (M 1 o - cstM M p)) i) (hN (M 8 (4 * p + i))) (payC M p b o P (upd (M 1) o (M 1 o - cstM M p)) i (hN (M 8 (4 * p + i))) - P i)) o (upd (payC M p b o P (upd (M 1) o (M 1 o - cstM M p)) i) (hN (M 8 (4 * p + i))) (payC M p b o P (upd (M 1) o (M 1 o - cstM M p)) i (hN (M 8 (4 * p + i))) - P i) o + P i)); rw [bx_uu] at z; exact z)
          · refine A.goto 122 (by decide) d_md_decree_77 ?_
            refine A.iincp (n := 4) rfl (Nat.le_of_ble_eq_true rfl) d_md_decree_122 ?_
            dsimp only [List.set]
            refine A.goto 60 (by decide) d_md_decree_125 ?_
            rw [nI_1]
            refine ih (i + 1) _ S2 C2 (by omega) (by omega) ?_ hS2 (by first | exact hF2 | exact (hF2.up (by decide) (by decide)).up (by decide) (by decide))
            rw [payC_s]
            first | (rw [if_pos c74]; exact hM2) | (rw [if_neg c74]; have z := hM2.arr2 1 rfl (aI 20 (upd (payC M p b o P (upd (M 1) o (M 1 o - cstM M p)) i) (hN (M 8 (4 * p + i))) (payC M p b o P (upd (M 1) o (M 1 o - cstM M p)) i (hN (M 8 (4 * p + i))) - P i))) (upd (upd (payC M p b o P (upd (M 1) o (M 1 o - cstM M p)) i) (hN (M 8 (4 * p + i))) (payC M p b o P (upd (M 1) o (M 1 o - cstM M p)) i (hN (M 8 (4 * p + i))) - P i)) o (upd (payC M p b o P (upd (M 1) o (M 1 o - cstM M p)) i) (hN (M 8 (4 * p + i))) (payC M p b o P (upd (M 1) o (M 1 o - cstM M p)) i (hN (M 8 (4 * p + i))) - P i) o + P i)); rw [bx_uu] at z; exact z)
    refine A.aload_k 0 rfl rfl rfl d_md_decree_32 ?_
    apply A.getfield f_md_28 d_md_decree_33
    · repeat first | exact up_s | refine up_e (by decide) ?_ | exact hM1.1 | exact hM1.2.1 _ rfl
    · rfl
    refine A.iconst (v := 4) rfl d_md_decree_36 ?_
    refine A.iload_k 1 rfl rfl d_md_decree_37 ?_
    refine A.imul d_md_decree_38 ?_
    refine A.iload_k 2 rfl rfl d_md_decree_39 ?_
    refine A.iadd d_md_decree_40 ?_
    apply A.iaload (j := 4 * p + b) d_md_decree_41
    · repeat first | exact up_s | refine up_e (by decide) ?_ | exact hM1.1 | exact hM1.2.1 _ rfl
    · exact ix4 (by omega) (by omega)
    · show 4 * p + b < 96; omega
    rw [eo]
    refine A.istore_k 3 rfl (Nat.le_of_ble_eq_true rfl) rfl d_md_decree_42 ?_
    dsimp only [List.set]
    refine A.aload_k 0 rfl rfl rfl d_md_decree_43 ?_
    apply A.getfield f_md_9 d_md_decree_44
    · repeat first | exact up_s | refine up_e (by decide) ?_ | exact hM1.1 | exact hM1.2.1 _ rfl
    · rfl
    refine A.iload_k 3 rfl rfl d_md_decree_47 ?_
    refine A.dup2 rfl rfl d_md_decree_48 ?_
    apply A.iaload (j := o) d_md_decree_49
    · repeat first | exact up_s | refine up_e (by decide) ?_ | exact hM1.1 | exact hM1.2.1 _ rfl
    · exact ixn (by omega)
    · exact ho
    refine A.aload_k 0 rfl rfl rfl d_md_decree_50 ?_
    refine A.iload_k 1 rfl rfl d_md_decree_51 ?_
    refine A.callV1 s_md_118 ?_ (Nat.le_of_ble_eq_true rfl) (Nat.le_of_ble_eq_true rfl) (Nat.le_of_ble_eq_true rfl) d_md_decree_52 rfl (c_md_costOf hM1 (by omega) ?_)
    · apply Exists.intro
      repeat first | exact up_s | refine up_e (by decide) ?_ | exact hM1.1 | exact hM1.2.1 _ rfl
    dsimp only [psh]
    refine A.isub d_md_decree_55 ?_
    apply A.iastore (j := o) d_md_decree_56
    · repeat first | exact up_s | refine up_e (by decide) ?_ | exact hM1.1 | exact hM1.2.1 _ rfl
    · first | decide | omega
    · exact ixn (by omega)
    · exact ho
    refine A.iconst (v := 0) rfl d_md_decree_57 ?_
    refine A.istore (Nat.le_of_ble_eq_true rfl) rfl d_md_decree_58 ?_
    dsimp only [List.set]
    exact loopP (l + 2) 0 _ S1 C1 (by omega) (by omega) (hM1.arr 1 rfl _) hS1 (hF1.up (by decide) (by decide))
  refine A.aload_k 0 rfl rfl rfl d_md_decree_0 ?_
  refine A.iload_k 1 rfl rfl d_md_decree_1 ?_
  refine A.callV1 s_md_101 ?_ (Nat.le_of_ble_eq_true rfl) (Nat.le_of_ble_eq_true rfl) (Nat.le_of_ble_eq_true rfl) d_md_decree_2 rfl (c_md_isPlot hM hn hn2 (fun p j1 j2 => ?_) (fun j3 => ?_))
  · apply Exists.intro
    first | exact hM.1 | exact hM.2.1 _ rfl
  · dsimp only [psh]
    refine A.if_eq1 d_md_decree_5 (tgt := 17) (by decide) ?_
    subst j2
    refine A.aload_k 0 rfl rfl rfl d_md_decree_8 ?_
    apply A.getfield f_md_22 d_md_decree_9
    · first | exact hM.1 | exact hM.2.1 _ rfl
    · rfl
    refine A.iload_k 1 rfl rfl d_md_decree_12 ?_
    apply A.iaload (j := p) d_md_decree_13
    · first | exact hM.1 | exact hM.2.1 _ rfl
    · exact ixn (by omega)
    · show p < 24; omega
    refine A.if_eq 19 (by decide) d_md_decree_14 (fun c14 => ?_) (fun c14 => ?_)
    · obtain ⟨l, hl3, el⟩ := hl p
      refine A.aload_k 0 rfl rfl rfl d_md_decree_19 ?_
      refine A.iload_k 1 rfl rfl d_md_decree_20 ?_
      refine A.callV1 s_md_126 ?_ (Nat.le_of_ble_eq_true rfl) (Nat.le_of_ble_eq_true rfl) (Nat.le_of_ble_eq_true rfl) d_md_decree_21 rfl (c_md_parted hM hw' j1 el hl3 (fun z => ?_) (fun b b1 b2 G' S' C' hM' hS hF => ?_))
      · apply Exists.intro
        first | exact hM.1 | exact hM.2.1 _ rfl
      · dsimp only [psh]
        refine A.istore_k 2 rfl (Nat.le_of_ble_eq_true rfl) rfl d_md_decree_24 ?_
        dsimp only [List.set]
        refine A.iload_k 2 rfl rfl d_md_decree_25 ?_
        refine A.iconst (v := -1) rfl d_md_decree_26 ?_
        refine A.icmp_ne 32 (by decide) d_md_decree_27 (fun c => absurd rfl c) (fun c => ?_)
        refine A.iconst (v := -1) rfl d_md_decree_30 ?_
        refine A.iret d_md_decree_31 rfl ?_
        first | exact h2 p l j1 rfl c14 el hl3 z | exact absurd c27 (nI_nm1 (by omega))
      · dsimp only [psh]
        refine A.istore_k 2 rfl (Nat.le_of_ble_eq_true rfl) rfl d_md_decree_24 ?_
        dsimp only [List.set]
        refine A.iload_k 2 rfl rfl d_md_decree_25 ?_
        refine A.iconst (v := -1) rfl d_md_decree_26 ?_
        refine A.icmp_ne 32 (by decide) d_md_decree_27 (fun c27 => ?_) (fun c27 => ?_)
        · first | exact absurd rfl c27 | exact dec2 p l b G' S' C' j1 rfl c14 el hl3 b1 b2 hM' hS hF
        · refine A.iconst (v := -1) rfl d_md_decree_30 ?_
          refine A.iret d_md_decree_31 rfl ?_
          first | exact h2 p l j1 rfl c14 el hl3 z | exact absurd c27 (nI_nm1 (by omega))
    · refine A.iconst (v := -1) rfl d_md_decree_17 ?_
      refine A.iret d_md_decree_18 rfl ?_
      first | exact h0 (fun z => by obtain ⟨p, y1, y2, y3⟩ := z; exact j3 p y1 y2) | exact h0 (fun z => by obtain ⟨p', y1, y2, y3⟩ := z; have := nI_inj (by omega) (by omega) y2; subst this; exact c14 y3)
  · dsimp only [psh]
    refine A.if_eq0 17 (by decide) d_md_decree_5 ?_
    refine A.iconst (v := -1) rfl d_md_decree_17 ?_
    refine A.iret d_md_decree_18 rfl ?_
    first | exact h0 (fun z => by obtain ⟨p, y1, y2, y3⟩ := z; exact j3 p y1 y2) | exact h0 (fun z => by obtain ⟨p', y1, y2, y3⟩ := z; have := nI_inj (by omega) (by omega) y2; subst this; exact c14 y3)
end MODEL4
