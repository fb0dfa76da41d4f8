/-! the reference, on: quarrel, border -/
theorem mnN_min (f : Nat → Nat) (x : Nat) : ∀ j y, x + 1 ≤ y → y < x + 1 + j → mnN f x j ≤ f y
  | 0, y, h1, h2 => by omega
  | j + 1, y, h1, h2 => by
    rw [mnN_s]
    by_cases e : y = x + 1 + j
    · subst e
      by_cases c : f (x + 1 + j) < mnN f x j
      · rw [if_pos c]; exact Nat.le_refl _
      · rw [if_neg c]; omega
    · have := mnN_min f x j y h1 (by omega)
      by_cases c : f (x + 1 + j) < mnN f x j
      · rw [if_pos c]; omega
      · rw [if_neg c]; exact this
theorem mnN_at (f : Nat → Nat) (x : Nat) : ∀ j, mnN f x j < 1000000 → ∃ y, x + 1 ≤ y ∧ y < x + 1 + j ∧ f y = mnN f x j
  | 0, h => absurd h (by unfold mnN; omega)
  | j + 1, h => by
    rw [mnN_s] at h ⊢
    by_cases c : f (x + 1 + j) < mnN f x j
    · rw [if_pos c]; exact ⟨x + 1 + j, by omega, by omega, rfl⟩
    · rw [if_neg c] at h ⊢
      obtain ⟨y, h1, h2, h3⟩ := mnN_at f x j h
      exact ⟨y, h1, by omega, h3⟩
theorem csN_lt {D : Nat → Nat} {d : Nat} {sk : Option Nat} {t x y : Nat} (h : csN D d sk t x y < 1000000) : D y < 1000000 := by
  unfold csN at h
  by_cases c : 1000000 ≤ D y
  · rw [if_pos c] at h; omega
  · omega
theorem csN_small {D : Nat → Nat} {d : Nat} {sk : Option Nat} {t x y : Nat} (hy : y ≤ 300) (hd : d ≤ 60) (hs : ∀ z, sk = some z → z ≤ 300) (hD : D y < 1000000) : csN D d sk t x y ≤ D y + 600 := by
  unfold csN
  rw [if_neg (by omega)]
  have h1 : apN (y - x) d ≤ 300 := apN_le (by omega) (by omega)
  have h2 : (if y < t then skN sk y else 0) ≤ 300 := by
    by_cases c2 : y < t
    · rw [if_pos c2]
      cases sk with
      | none => exact Nat.zero_le _
      | some z => exact apN_le hy (hs z rfl)
    · rw [if_neg c2]; omega
  omega
theorem DN_small {n t : Nat} {dd : Nat → Nat} {sk : Nat → Option Nat} (hn : n ≤ 8) (ht : t ≤ 300) (hdd : ∀ j, j < n → dd j ≤ 60) (hsk : ∀ j z, j < n → sk j = some z → z ≤ 300) : ∀ j x, j ≤ n → (j = 0 → x = t) → x + j ≤ t → DN n t dd sk j x ≤ 700 * j
  | 0, x, _, h0, _ => by
    show (if x = t then 0 else 1000000) ≤ _
    rw [if_pos (h0 rfl)]
    omega
  | j + 1, x, hj, _, hx => by
    rw [DN_s]
    obtain ⟨y, hy1, hy2, hy3, hy4⟩ : ∃ y, x + 1 ≤ y ∧ y ≤ t ∧ (j = 0 → y = t) ∧ y + j ≤ t := by
      by_cases e : j = 0
      · exact ⟨t, by omega, by omega, fun _ => rfl, by omega⟩
      · exact ⟨x + 1, by omega, by omega, fun z => absurd z e, by omega⟩
    have ih := DN_small hn ht hdd hsk j y (by omega) hy3 hy4
    have h1 := mnN_min (csN (DN n t dd sk j) (dd (n - (j + 1))) (sk (n - (j + 1))) t x) x (t - x) y hy1 (by omega)
    have h2 := csN_small (D := DN n t dd sk j) (d := dd (n - (j + 1))) (sk := sk (n - (j + 1))) (t := t) (x := x) (y := y) (by omega) (hdd _ (by omega)) (fun z => hsk _ z (by omega)) (by omega)
    omega
def feN (f : Nat → Nat) (v : Nat) : Nat → Nat → Nat
  | 0, y => y
  | k + 1, y => if f y = v then y else feN f v k (y + 1)
theorem feN_s (f : Nat → Nat) (v k y : Nat) : feN f v (k + 1) y = if f y = v then y else feN f v k (y + 1) := rfl
theorem feN_at (f : Nat → Nat) (v : Nat) : ∀ k y, (∃ y0, y ≤ y0 ∧ y0 ≤ y + k ∧ f y0 = v) → f (feN f v k y) = v ∧ y ≤ feN f v k y ∧ feN f v k y ≤ y + k
  | 0, y, ⟨y0, h1, h2, h3⟩ => by
    have : y0 = y := by omega
    subst this
    exact ⟨h3, Nat.le_refl _, Nat.le_refl _⟩
  | k + 1, y, ⟨y0, h1, h2, h3⟩ => by
    rw [feN_s]
    by_cases c : f y = v
    · rw [if_pos c]; exact ⟨c, by omega, by omega⟩
    · rw [if_neg c]
      have e : y0 ≠ y := fun z => c (by rw [← z]; exact h3)
      obtain ⟨a1, a2, a3⟩ := feN_at f v k (y + 1) ⟨y0, by omega, by omega, h3⟩
      exact ⟨a1, by omega, by omega⟩
/-- the borders: behind the i-th plot the foot bdN (i + 1) -/
def bdN (n t : Nat) (dd : Nat → Nat) (sk : Nat → Option Nat) : Nat → Nat
  | 0 => 0
  | i + 1 => feN (csN (DN n t dd sk (n - (i + 1))) (dd i) (sk i) t (bdN n t dd sk i)) (DN n t dd sk (n - i) (bdN n t dd sk i)) (t - (bdN n t dd sk i + 1)) (bdN n t dd sk i + 1)
theorem bdN_s (n t : Nat) (dd : Nat → Nat) (sk : Nat → Option Nat) (i : Nat) : bdN n t dd sk (i + 1) = feN (csN (DN n t dd sk (n - (i + 1))) (dd i) (sk i) t (bdN n t dd sk i)) (DN n t dd sk (n - i) (bdN n t dd sk i)) (t - (bdN n t dd sk i + 1)) (bdN n t dd sk i + 1) := rfl
theorem DN_at {n t : Nat} {dd : Nat → Nat} {sk : Nat → Option Nat} {i x : Nat} (hi : i < n) (hx : x < t) (h : DN n t dd sk (n - i) x < 1000000) : ∃ y0, x + 1 ≤ y0 ∧ y0 ≤ x + 1 + (t - (x + 1)) ∧ csN (DN n t dd sk (n - (i + 1))) (dd i) (sk i) t x y0 = DN n t dd sk (n - i) x := by
  rw [show n - i = (n - (i + 1)) + 1 by omega, DN_s, show n - (n - (i + 1) + 1) = i by omega] at h ⊢
  obtain ⟨y, h1, h2, h3⟩ := mnN_at _ _ _ h
  exact ⟨y, h1, by omega, h3⟩
theorem DN_far {n t : Nat} {dd : Nat → Nat} {sk : Nat → Option Nat} : ∀ j x, t < x + j → DN n t dd sk j x = 1000000
  | 0, x, h => by
    show (if x = t then 0 else 1000000) = _
    rw [if_neg (by omega)]
  | j + 1, x, h => by
    rw [DN_s]
    rcases Nat.lt_or_ge (mnN (csN (DN n t dd sk j) (dd (n - (j + 1))) (sk (n - (j + 1))) t x) x (t - x)) 1000000 with c | c
    · obtain ⟨y, h1, h2, h3⟩ := mnN_at _ _ _ c
      rw [← h3] at c
      have := csN_lt c
      rw [DN_far j y (by omega)] at this
      omega
    · have := mnN_le (csN (DN n t dd sk j) (dd (n - (j + 1))) (sk (n - (j + 1))) t x) x (t - x)
      omega
theorem bdN_ok {n t : Nat} {dd : Nat → Nat} {sk : Nat → Option Nat} (hn : n ≤ 8) (ht : t ≤ 300) (hnt : n ≤ t) (h1 : 1 ≤ n) (hdd : ∀ j, j < n → dd j ≤ 60) (hsk : ∀ j z, j < n → sk j = some z → z ≤ 300) : ∀ i, i ≤ n → DN n t dd sk (n - i) (bdN n t dd sk i) < 1000000 ∧ bdN n t dd sk i + (n - i) ≤ t
  | 0, _ => by
    have := DN_small hn ht hdd hsk n 0 (Nat.le_refl _) (by omega) (by omega)
    exact ⟨by show DN n t dd sk (n - 0) 0 < _; rw [Nat.sub_zero]; omega, by show 0 + (n - 0) ≤ t; omega⟩
  | i + 1, hi => by
    obtain ⟨a1, a2⟩ := bdN_ok hn ht hnt h1 hdd hsk i (by omega)
    obtain ⟨b1, b2, b3⟩ := feN_at _ _ _ _ (DN_at (n := n) (t := t) (dd := dd) (sk := sk) (i := i) (x := bdN n t dd sk i) (by omega) (by omega) a1)
    rw [← bdN_s] at b1 b2 b3
    rw [← b1] at a1
    have c1 := csN_lt a1
    refine ⟨c1, ?_⟩
    rcases Nat.lt_or_ge t (bdN n t dd sk (i + 1) + (n - (i + 1))) with y | y
    · rw [DN_far _ _ y] at c1; omega
    · exact y
theorem m3 {k : Int32} (h : 0 ≤ k) : ¬ k ≤ (-1 : Int32) - 2 := fun z => by
  have := Int32.le_trans h z
  exact absurd this (by decide)
theorem of2 {n : Nat} {k : Int32} (hn : n ≤ 8) (h1 : 0 ≤ k) (h2 : k ≤ nI n - 2) : ∃ j, j + 2 ≤ n ∧ k = nI j := by
  have e : (nI n - 2).toInt = (n : Int) - 2 := pk_sub_toInt (a := n) (b := 2) (by omega) (by omega)
  rw [Int32.le_iff_toInt_le] at h1 h2
  rw [e] at h2
  have h1 : 0 ≤ k.toInt := h1
  refine ⟨k.toInt.toNat, by omega, ?_⟩
  apply Int32.toInt_inj.mp
  rw [nI_toInt (by omega)]
  omega
theorem bt2 {n j : Nat} {k : Int32} (h : j + 2 ≤ n) (hn : n ≤ 8) (e : k = nI j) : 0 ≤ k ∧ k ≤ nI n - 2 := by
  have e2 : (nI n - 2).toInt = (n : Int) - 2 := pk_sub_toInt (a := n) (b := 2) (by omega) (by omega)
  rw [e]
  refine ⟨nI_pos' (by omega), ?_⟩
  rw [Int32.le_iff_toInt_le, e2, nI_toInt (by omega)]
  omega
section MODEL9
variable {M S : MS} {C : Nat → Int64} {G : AHp} {kc ks np : Nat} {Q : Option Value → AHp → Prop}
theorem c_md_quarrel {x t : Int32} (hM : MH G M S C) (hw : WF M np) (hws : WS M np)
    (h0 : (∀ q, q < 6 → x = nI q → ¬ okT (strL M (nI q) np).length t) → ∀ G' S', MH G' M S' C → FrM G G' → Q (some (.int (-1))) G')
    (h1 : ∀ q τ, q < 6 → x = nI q → t = nI τ → τ ≤ 300 → okT (strL M (nI q) np).length t → ∀ G' S', MH G' M S' C → FrM G G' → Q (some (.int (nI (DN (strL M (nI q) np).length τ (ddM M (nI q) np) (skM M q) (strL M (nI q) np).length 0)))) G') : A 4 M_md_quarrel 0 [some (.ref 100), some (.int x), some (.int t)] [] G kc ks Q := by
  refine A.aload_k 0 rfl rfl rfl d_md_quarrel_0 ?_
  refine A.iload_k 1 rfl rfl d_md_quarrel_1 ?_
  refine A.iload_k 2 rfl rfl d_md_quarrel_2 ?_
  refine A.callV2 s_md_189 ?_ (Nat.le_of_ble_eq_true rfl) (Nat.le_of_ble_eq_true rfl) (Nat.le_of_ble_eq_true rfl) d_md_quarrel_3 rfl (c_md_quarrels hM hw hws (fun z => ?_) (fun q y1 y2 y3 G' S' hM' hF => ?_) (fun q τ y1 y2 y3 y4 y5 y6 y7 y8 y9 G' S' hM' hF hd hq => ?_))
  · apply Exists.intro
    first | exact hM.1 | exact hM'.1 | exact hM'.2.2.1 _ rfl
  · dsimp only [psh]
    refine A.iconst (v := -1) rfl d_md_quarrel_6 ?_
    refine A.icmp_ne 14 (by decide) d_md_quarrel_7 (fun c => absurd rfl c) (fun c => ?_)
    refine A.iconst (v := -1) rfl d_md_quarrel_10 ?_
    refine A.goto 20 (by decide) d_md_quarrel_11 ?_
    refine A.iret d_md_quarrel_20 rfl ?_
    first | exact h0 (fun q' e1 e2 => absurd e2 (z q' e1)) G S hM FrM.rf | exact h0 (fun q' e1 e2 => by have := nI_inj (by omega) (by omega) (y2.symm.trans e2); subst this; exact y3) G' S' hM' hF | (rw [show S' 31 0 = _ from hq.2 0 0 (by omega) (by omega) (by omega)]; exact h1 q τ y1 y2 y3 (by omega) y4 G' S' hM' hF)
  · dsimp only [psh]
    refine A.iconst (v := -1) rfl d_md_quarrel_6 ?_
    refine A.icmp_ne 14 (by decide) d_md_quarrel_7 (fun c => absurd rfl c) (fun c => ?_)
    refine A.iconst (v := -1) rfl d_md_quarrel_10 ?_
    refine A.goto 20 (by decide) d_md_quarrel_11 ?_
    refine A.iret d_md_quarrel_20 rfl ?_
    first | exact h0 (fun q' e1 e2 => absurd e2 (z q' e1)) G S hM FrM.rf | exact h0 (fun q' e1 e2 => by have := nI_inj (by omega) (by omega) (y2.symm.trans e2); subst this; exact y3) G' S' hM' hF | (rw [show S' 31 0 = _ from hq.2 0 0 (by omega) (by omega) (by omega)]; exact h1 q τ y1 y2 y3 (by omega) y4 G' S' hM' hF)
  · dsimp only [psh]
    refine A.iconst (v := -1) rfl d_md_quarrel_6 ?_
    refine A.icmp_ne 14 (by decide) d_md_quarrel_7 (fun c7 => ?_) (fun c7 => ?_)
    · refine A.aload_k 0 rfl rfl rfl d_md_quarrel_14 ?_
      apply A.getfield f_md_81 d_md_quarrel_15
      · first | exact hM.1 | exact hM'.1 | exact hM'.2.2.1 _ rfl
      · rfl
      refine A.iconst (v := 0) rfl d_md_quarrel_18 ?_
      apply A.iaload (j := 0) d_md_quarrel_19
      · first | exact hM.1 | exact hM'.1 | exact hM'.2.2.1 _ rfl
      · decide
      · decide
      refine A.iret d_md_quarrel_20 rfl ?_
      first | exact h0 (fun q' e1 e2 => absurd e2 (z q' e1)) G S hM FrM.rf | exact h0 (fun q' e1 e2 => by have := nI_inj (by omega) (by omega) (y2.symm.trans e2); subst this; exact y3) G' S' hM' hF | (rw [show S' 31 0 = _ from hq.2 0 0 (by omega) (by omega) (by omega)]; exact h1 q τ y1 y2 y3 (by omega) y4 G' S' hM' hF)
    · exact absurd c7 (nI_nm1 (by omega))
theorem c_md_border {x t k : Int32} (hM : MH G M S C) (hw : WF M np) (hws : WS M np)
    (h0 : (∀ q j, q < 6 → x = nI q → okT (strL M (nI q) np).length t → j + 2 ≤ (strL M (nI q) np).length → k ≠ nI j) → ∀ G' S', MH G' M S' C → FrM G G' → Q (some (.int (-1))) G')
    (h1 : ∀ q τ j, q < 6 → x = nI q → t = nI τ → τ ≤ 300 → okT (strL M (nI q) np).length t → j + 2 ≤ (strL M (nI q) np).length → k = nI j → ∀ G' S', MH G' M S' C → FrM G G' → Q (some (.int (nI (bdN (strL M (nI q) np).length τ (ddM M (nI q) np) (skM M q) (j + 1))))) G') : A 4 M_md_border 0 [some (.ref 100), some (.int x), some (.int t), some (.int k), none, none, none, none] [] G kc ks Q := by
  have main : ∀ (q n τ j : Nat) (G' : AHp) (S' : MS), q < 6 → x = nI q → t = nI τ → n = (strL M (nI q) np).length → okT n t → 2 ≤ τ → n ≤ τ → τ ≤ 300 → 1 ≤ n → n ≤ 8 → j + 2 ≤ n → k = nI j → (∀ k, k < n → ddM M (nI q) np k ≤ 60) → QR S' n τ (ddM M (nI q) np) (skM M q) 0 → MH G' M S' C → FrM G G' → A 4 M_md_border 22 [some (.ref 100), some (.int (nI q)), some (.int (nI τ)), some (.int (nI j)), some (.int (nI n)), none, none, none] [] G' kc ks Q := by
    intro q n τ j G1 S1 hq ex et en hok t2 tn t3 n1 n8 hj ek hdd hqr hM1 hF1
    have h1 := h1 q τ j hq ex et (by omega) (by rw [← en]; exact hok) (by omega) ek G1 S1 hM1 hF1
    rw [← en] at h1
    have hsk := fun j (_ : j < n) => skM_ok hws q j
    generalize skM M q = sk at *
    generalize ddM M (nI q) np = dd at *
    have hsk2 : ∀ j z, j < n → sk j = some z → z ≤ 300 := fun j z hj hz => by
      rcases hsk j hj with ⟨e1, e2⟩ | ⟨z', hz', e1, e2⟩
      · rw [e2] at hz; cases hz
      · rw [e2] at hz; cases hz; exact hz'
    have loop : ∀ (m i : Nat) (v7 : Option Value), i + m = j + 1 → A 4 M_md_border 28 [some (.ref 100), some (.int (nI q)), some (.int (nI τ)), some (.int (nI j)), some (.int (nI n)), some (.int (nI (bdN n τ dd sk i))), some (.int (nI i)), v7] [] G1 kc ks Q := by
      intro m
      induction m with
      | zero =>
        intro i v7 hi
        have e : i = j + 1 := by omega
        subst e
        refine A.iload rfl d_md_border_28 ?_
        refine A.iload_k 3 rfl rfl d_md_border_30 ?_
        refine A.icmp_gt 85 (by decide) d_md_border_31 (fun c31 => ?_) (fun c31 => ?_)
        · refine A.iload rfl d_md_border_85 ?_
          refine A.iret d_md_border_87 rfl ?_
          exact h1
        · exact absurd (nI_lt (by omega) (by omega)) c31
      | succ m ih =>
        intro i v7 hi
        obtain ⟨a1, a2⟩ := bdN_ok n8 t3 tn n1 hdd hsk2 i (by omega)
        have hex := DN_at (n := n) (t := τ) (dd := dd) (sk := sk) (i := i) (x := bdN n τ dd sk i) (by omega) (by omega) a1
        have ih := fun v7 => ih (i + 1) v7 (by omega)
        rw [bdN_s] at ih
        have eL := hqr.2 i (bdN n τ dd sk i) (by omega) (by omega) (by omega)
        have hq1 : QR S1 n τ dd sk (i + 1) := ⟨hqr.1, fun k' x y1 y2 y3 => hqr.2 k' x (by omega) y2 y3⟩
        have hbc : ∀ y, y ≤ τ → csN (DN n τ dd sk (n - (i + 1))) (dd i) (sk i) τ (bdN n τ dd sk i) y ≤ 1000700 := fun y hy => csN_le (by omega) (hdd i (by omega)) (fun z => hsk2 i z (by omega))
        have hDl := DN_le n τ dd sk (n - i) (bdN n τ dd sk i)
        generalize hX : bdN n τ dd sk i = X at *
        generalize hV : DN n τ dd sk (n - i) X = V at *
        have inner : ∀ (f y : Nat), y + f = τ → X < y → (∃ y0, y ≤ y0 ∧ y0 ≤ y + f ∧ csN (DN n τ dd sk (n - (i + 1))) (dd i) (sk i) τ X y0 = V) → feN (csN (DN n τ dd sk (n - (i + 1))) (dd i) (sk i) τ X) V f y = feN (csN (DN n τ dd sk (n - (i + 1))) (dd i) (sk i) τ X) V (τ - (X + 1)) (X + 1) → A 4 M_md_border 40 [some (.ref 100), some (.int (nI q)), some (.int (nI τ)), some (.int (nI j)), some (.int (nI n)), some (.int (nI X)), some (.int (nI i)), some (.int (nI y))] [] G1 kc ks Q := by
          intro f
          induction f with
          | zero =>
            intro y hy hxy hey hfe
            have hb := hbc y (by omega)
            refine A.aload_k 0 rfl rfl rfl d_md_border_40 ?_
            refine A.iload_k 1 rfl rfl d_md_border_41 ?_
            refine A.iload rfl d_md_border_42 ?_
            refine A.iload rfl d_md_border_44 ?_
            refine A.iload rfl d_md_border_46 ?_
            refine A.iload_k 2 rfl rfl d_md_border_48 ?_
            refine A.callV5 s_md_182 ?_ (Nat.le_of_ble_eq_true rfl) (Nat.le_of_ble_eq_true rfl) (Nat.le_of_ble_eq_true rfl) d_md_border_49 rfl (c_md_costs hM1 hq n8 t3 (by omega) hxy (by omega) hdd hsk hq1 ?_)
            · apply Exists.intro
              first | exact hM1.1 | exact hM1.2.2.1 _ rfl
            dsimp only [psh]
            refine A.aload_k 0 rfl rfl rfl d_md_border_52 ?_
            apply A.getfield f_md_81 d_md_border_53
            · first | exact hM1.1 | exact hM1.2.2.1 _ rfl
            · rfl
            refine A.sipush (v := 301) rfl d_md_border_56 ?_
            refine A.iload rfl d_md_border_59 ?_
            refine A.imul d_md_border_61 ?_
            refine A.iload rfl d_md_border_62 ?_
            refine A.iadd d_md_border_64 ?_
            apply A.iaload (j := 301 * i + X) d_md_border_65
            · first | exact hM1.1 | exact hM1.2.2.1 _ rfl
            · exact ix301 (by omega) (by omega)
            · show 301 * i + X < 2709; omega
            rw [eL]
            refine A.icmp_eq 75 (by decide) d_md_border_66 (fun c66 => ?_) (fun c66 => ?_)
            · refine A.iload rfl d_md_border_75 ?_
              refine A.istore (Nat.le_of_ble_eq_true rfl) rfl d_md_border_77 ?_
              dsimp only [List.set]
              refine A.iincp (n := 6) rfl (Nat.le_of_ble_eq_true rfl) d_md_border_79 ?_
              dsimp only [List.set]
              refine A.goto 28 (by decide) d_md_border_82 ?_
              rw [nI_1]
              rw [← hfe] at ih
              exact ih _
            · obtain ⟨y0, y1, y2, y3⟩ := hey
              have : y0 = y := by omega
              subst this
              exact absurd (by rw [y3]) c66
          | succ f ihf =>
            intro y hy hxy hey hfe
            have hb := hbc y (by omega)
            have hs := feN_s (csN (DN n τ dd sk (n - (i + 1))) (dd i) (sk i) τ X) V f y
            refine A.aload_k 0 rfl rfl rfl d_md_border_40 ?_
            refine A.iload_k 1 rfl rfl d_md_border_41 ?_
            refine A.iload rfl d_md_border_42 ?_
            refine A.iload rfl d_md_border_44 ?_
            refine A.iload rfl d_md_border_46 ?_
            refine A.iload_k 2 rfl rfl d_md_border_48 ?_
            refine A.callV5 s_md_182 ?_ (Nat.le_of_ble_eq_true rfl) (Nat.le_of_ble_eq_true rfl) (Nat.le_of_ble_eq_true rfl) d_md_border_49 rfl (c_md_costs hM1 hq n8 t3 (by omega) hxy (by omega) hdd hsk hq1 ?_)
            · apply Exists.intro
              first | exact hM1.1 | exact hM1.2.2.1 _ rfl
            dsimp only [psh]
            refine A.aload_k 0 rfl rfl rfl d_md_border_52 ?_
            apply A.getfield f_md_81 d_md_border_53
            · first | exact hM1.1 | exact hM1.2.2.1 _ rfl
            · rfl
            refine A.sipush (v := 301) rfl d_md_border_56 ?_
            refine A.iload rfl d_md_border_59 ?_
            refine A.imul d_md_border_61 ?_
            refine A.iload rfl d_md_border_62 ?_
            refine A.iadd d_md_border_64 ?_
            apply A.iaload (j := 301 * i + X) d_md_border_65
            · first | exact hM1.1 | exact hM1.2.2.1 _ rfl
            · exact ix301 (by omega) (by omega)
            · show 301 * i + X < 2709; omega
            rw [eL]
            refine A.icmp_eq 75 (by decide) d_md_border_66 (fun c66 => ?_) (fun c66 => ?_)
            · refine A.iload rfl d_md_border_75 ?_
              refine A.istore (Nat.le_of_ble_eq_true rfl) rfl d_md_border_77 ?_
              dsimp only [List.set]
              refine A.iincp (n := 6) rfl (Nat.le_of_ble_eq_true rfl) d_md_border_79 ?_
              dsimp only [List.set]
              refine A.goto 28 (by decide) d_md_border_82 ?_
              rw [nI_1]
              rw [← hfe, hs, if_pos ((nI_eq (by omega) (by omega)).mp c66)] at ih
              exact ih _
            · refine A.iincp (n := 7) rfl (Nat.le_of_ble_eq_true rfl) d_md_border_69 ?_
              dsimp only [List.set]
              refine A.goto 40 (by decide) d_md_border_72 ?_
              rw [nI_1]
              have hne : ¬ csN (DN n τ dd sk (n - (i + 1))) (dd i) (sk i) τ X y = V := fun z => c66 (by rw [z])
              rw [hs, if_neg hne] at hfe
              refine ihf (y + 1) (by omega) (by omega) ?_ hfe
              obtain ⟨y0, y1, y2, y3⟩ := hey
              exact ⟨y0, by rcases Nat.lt_or_ge y y0 with w | w; omega; exact absurd (by rw [show y = y0 by omega]; exact y3) hne, by omega, y3⟩
        refine A.iload rfl d_md_border_28 ?_
        refine A.iload_k 3 rfl rfl d_md_border_30 ?_
        refine A.icmp_gt 85 (by decide) d_md_border_31 (fun c31 => ?_) (fun c31 => ?_)
        · exact absurd c31 (nI_nlt (by omega) (by omega))
        refine A.iload rfl d_md_border_34 ?_
        refine A.iconst (v := 1) rfl d_md_border_36 ?_
        refine A.iadd d_md_border_37 ?_
        refine A.istore (Nat.le_of_ble_eq_true rfl) rfl d_md_border_38 ?_
        dsimp only [List.set]
        rw [nI_1]
        exact inner (τ - (X + 1)) (X + 1) (by omega) (by omega) hex rfl
    refine A.iconst (v := 0) rfl d_md_border_22 ?_
    refine A.istore (Nat.le_of_ble_eq_true rfl) rfl d_md_border_23 ?_
    dsimp only [List.set]
    refine A.iconst (v := 0) rfl d_md_border_25 ?_
    refine A.istore (Nat.le_of_ble_eq_true rfl) rfl d_md_border_26 ?_
    dsimp only [List.set]
    exact loop (j + 1) 0 none (by omega)
  refine A.aload_k 0 rfl rfl rfl d_md_border_0 ?_
  refine A.iload_k 1 rfl rfl d_md_border_1 ?_
  refine A.iload_k 2 rfl rfl d_md_border_2 ?_
  refine A.callV2 s_md_189 ?_ (Nat.le_of_ble_eq_true rfl) (Nat.le_of_ble_eq_true rfl) (Nat.le_of_ble_eq_true rfl) d_md_border_3 rfl (c_md_quarrels hM hw hws (fun z => ?_) (fun q y1 y2 y3 G' S' hM' hF => ?_) (fun q τ y1 y2 y3 y4 y5 y6 y7 y8 y9 G' S' hM' hF hd hq => ?_))
  · apply Exists.intro
    first | exact hM.1 | exact hM'.1 | exact hM'.2.2.1 _ rfl
  · dsimp only [psh]
    refine A.istore (Nat.le_of_ble_eq_true rfl) rfl d_md_border_6 ?_
    dsimp only [List.set]
    refine A.iload_k 3 rfl rfl d_md_border_8 ?_
    refine A.iconst (v := 0) rfl d_md_border_9 ?_
    refine A.iload rfl d_md_border_10 ?_
    refine A.iconst (v := 2) rfl d_md_border_12 ?_
    refine A.isub d_md_border_13 ?_
    refine A.callS3 s_md_87 (Nat.le_of_ble_eq_true rfl) (Nat.le_of_ble_eq_true rfl) (Nat.le_of_ble_eq_true rfl) d_md_border_14 rfl (c_md_in (fun i1 i2 => ?_) (fun i3 => ?_))
    · dsimp only [psh]
      refine A.if_ne1 22 (by decide) d_md_border_17 ?_
      first | exact absurd i2 (m3 i1) | (subst y2; subst y3; obtain ⟨j, e1, e2⟩ := of2 y9 i1 i2; rw [e2]; exact main q _ τ j G' S' y1 rfl rfl rfl y4 y5 y6 y7 y8 y9 e1 e2 hd hq hM' hF)
    · dsimp only [psh]
      refine A.if_ne0 d_md_border_17 (tgt := 22) (by decide) ?_
      refine A.iconst (v := -1) rfl d_md_border_20 ?_
      refine A.iret d_md_border_21 rfl ?_
      first | exact h0 (fun q' _ e1 e2 _ _ => absurd e2 (z q' e1)) G S hM FrM.rf | exact h0 (fun q' _ e1 e2 e3 _ => by have := nI_inj (by omega) (by omega) (y2.symm.trans e2); subst this; exact absurd e3 y3) G' S' hM' hF | exact h0 (fun q' j' e1 e2 e3 e4 e5 => by have := nI_inj (by omega) (by omega) (y2.symm.trans e2); subst this; exact i3 (bt2 e4 y9 e5)) G' S' hM' hF
  · dsimp only [psh]
    refine A.istore (Nat.le_of_ble_eq_true rfl) rfl d_md_border_6 ?_
    dsimp only [List.set]
    refine A.iload_k 3 rfl rfl d_md_border_8 ?_
    refine A.iconst (v := 0) rfl d_md_border_9 ?_
    refine A.iload rfl d_md_border_10 ?_
    refine A.iconst (v := 2) rfl d_md_border_12 ?_
    refine A.isub d_md_border_13 ?_
    refine A.callS3 s_md_87 (Nat.le_of_ble_eq_true rfl) (Nat.le_of_ble_eq_true rfl) (Nat.le_of_ble_eq_true rfl) d_md_border_14 rfl (c_md_in (fun i1 i2 => ?_) (fun i3 => ?_))
    · dsimp only [psh]
      refine A.if_ne1 22 (by decide) d_md_border_17 ?_
      first | exact absurd i2 (m3 i1) | (subst y2; subst y3; obtain ⟨j, e1, e2⟩ := of2 y9 i1 i2; rw [e2]; exact main q _ τ j G' S' y1 rfl rfl rfl y4 y5 y6 y7 y8 y9 e1 e2 hd hq hM' hF)
    · dsimp only [psh]
      refine A.if_ne0 d_md_border_17 (tgt := 22) (by decide) ?_
      refine A.iconst (v := -1) rfl d_md_border_20 ?_
      refine A.iret d_md_border_21 rfl ?_
      first | exact h0 (fun q' _ e1 e2 _ _ => absurd e2 (z q' e1)) G S hM FrM.rf | exact h0 (fun q' _ e1 e2 e3 _ => by have := nI_inj (by omega) (by omega) (y2.symm.trans e2); subst this; exact absurd e3 y3) G' S' hM' hF | exact h0 (fun q' j' e1 e2 e3 e4 e5 => by have := nI_inj (by omega) (by omega) (y2.symm.trans e2); subst this; exact i3 (bt2 e4 y9 e5)) G' S' hM' hF
  · dsimp only [psh]
    refine A.istore (Nat.le_of_ble_eq_true rfl) rfl d_md_border_6 ?_
    dsimp only [List.set]
    refine A.iload_k 3 rfl rfl d_md_border_8 ?_
    refine A.iconst (v := 0) rfl d_md_border_9 ?_
    refine A.iload rfl d_md_border_10 ?_
    refine A.iconst (v := 2) rfl d_md_border_12 ?_
    refine A.isub d_md_border_13 ?_
    refine A.callS3 s_md_87 (Nat.le_of_ble_eq_true rfl) (Nat.le_of_ble_eq_true rfl) (Nat.le_of_ble_eq_true rfl) d_md_border_14 rfl (c_md_in (fun i1 i2 => ?_) (fun i3 => ?_))
    · dsimp only [psh]
      refine A.if_ne1 22 (by decide) d_md_border_17 ?_
      first | exact absurd i2 (m3 i1) | (subst y2; subst y3; obtain ⟨j, e1, e2⟩ := of2 y9 i1 i2; rw [e2]; exact main q _ τ j G' S' y1 rfl rfl rfl y4 y5 y6 y7 y8 y9 e1 e2 hd hq hM' hF)
    · dsimp only [psh]
      refine A.if_ne0 d_md_border_17 (tgt := 22) (by decide) ?_
      refine A.iconst (v := -1) rfl d_md_border_20 ?_
      refine A.iret d_md_border_21 rfl ?_
      first | exact h0 (fun q' _ e1 e2 _ _ => absurd e2 (z q' e1)) G S hM FrM.rf | exact h0 (fun q' _ e1 e2 e3 _ => by have := nI_inj (by omega) (by omega) (y2.symm.trans e2); subst this; exact absurd e3 y3) G' S' hM' hF | exact h0 (fun q' j' e1 e2 e3 e4 e5 => by have := nI_inj (by omega) (by omega) (y2.symm.trans e2); subst this; exact i3 (bt2 e4 y9 e5)) G' S' hM' hF
end MODEL9
