/-! the reference, on: years -/
section MODEL6
variable {M S : MS} {C : Nat → Int64} {G : AHp} {kc ks np : Nat} {Q : Option Value → AHp → Prop}
def oldY (Y : Nat → Int32) (p l : Nat) : Nat → Nat → Int32
  | 0 => Y
  | j + 1 => upd (oldY Y p l j) (4 * p + (l - j)) (oldY Y p l j (4 * p + (l - j)) - 1)
theorem oldY_s (Y : Nat → Int32) (p l j : Nat) : oldY Y p l (j + 1) = upd (oldY Y p l j) (4 * p + (l - j)) (oldY Y p l j (4 * p + (l - j)) - 1) := rfl
def oldT (Y : Nat → Int32) (p l : Nat) : Nat → Int32
  | 0 => nI l
  | j + 1 => if oldY Y p l j (4 * p + (l - j)) - 1 = 0 then nI (l - j) - 1 else oldT Y p l j
theorem oldT_s (Y : Nat → Int32) (p l j : Nat) : oldT Y p l (j + 1) = if oldY Y p l j (4 * p + (l - j)) - 1 = 0 then nI (l - j) - 1 else oldT Y p l j := rfl
theorem oldT_in (Y : Nat → Int32) (p l : Nat) : ∀ j, j ≤ l → ∃ t, t ≤ l ∧ oldT Y p l j = nI t
  | 0, _ => ⟨l, Nat.le_refl _, rfl⟩
  | j + 1, hj => by
    rw [oldT_s]
    by_cases h : oldY Y p l j (4 * p + (l - j)) - 1 = 0
    · rw [if_pos h]
      refine ⟨l - j - 1, by omega, ?_⟩
      rw [show l - j = (l - j - 1) + 1 by omega, nI_pred]
      rfl
    · rw [if_neg h]; exact oldT_in Y p l j (by omega)
def mOld (M : MS) (p l : Nat) : MS := va_up (va_up M 9 (oldY (M 9) p l l)) 7 (upd (M 7) p (oldT (M 9) p l l))
theorem WF.old {p l : Nat} (h : WF M np) (hl : l ≤ 3) : WF (mOld M p l) np := by
  obtain ⟨y1, y2, y3, y4, y5, y6⟩ := h.up (k := 9) (oldY (M 9) p l l) (by decide) (by decide) (by decide) (by decide) (by decide)
  refine ⟨y1, y2, fun q => ?_, y4, y5, y6⟩
  show ∃ l', l' ≤ 3 ∧ upd (M 7) p (oldT (M 9) p l l) q = nI l'
  by_cases e : q = p
  · subst e
    rw [pk_us]
    obtain ⟨t, e1, e2⟩ := oldT_in (M 9) q l l (Nat.le_refl _)
    exact ⟨t, by omega, e2⟩
  · rw [pk_un e]; exact y3 q
theorem c_md_older {p l : Nat} (hM : MH G M S C) (hp : p < 24) (hl : M 7 p = nI l) (hl3 : l ≤ 3) (h : ∀ G', MH G' (mOld M p l) S C → FrM G G' → Q none G') : A 0 M_md_older 0 [some (.ref 100), some (.int (nI p)), none, none] [] G kc ks Q := by
  have ep : (nI p).toInt = (p : Int) := ixn (by omega)
  have loop : ∀ (k j : Nat) (G' : AHp), k + j = l → MH G' (va_up M 9 (oldY (M 9) p l j)) S C → FrM G G' → A 0 M_md_older 14 [some (.ref 100), some (.int (nI p)), some (.int (oldT (M 9) p l j)), some (.int (nI k))] [] G' kc ks Q := by
    intro k
    induction k with
    | zero =>
      intro j G' hk hM' hF
      have e : j = l := by omega
      subst e
      refine A.iload_k 3 rfl rfl d_md_older_14 ?_
      refine A.if_le 55 (by decide) d_md_older_15 (fun c15 => ?_) (fun c15 => ?_)
      · refine A.aload_k 0 rfl rfl rfl d_md_older_55 ?_
        apply A.getfield f_md_25 d_md_older_56
        · first | exact hM'.1 | exact hM'.2.1 _ rfl
        · rfl
        refine A.iload_k 1 rfl rfl d_md_older_59 ?_
        refine A.iload_k 2 rfl rfl d_md_older_60 ?_
        apply A.iastore (j := p) d_md_older_61
        · first | exact hM'.1 | exact hM'.2.1 _ rfl
        · first | decide | omega
        · exact ep
        · exact hp
        refine A.vret d_md_older_62 rfl ?_
        exact h _ (hM'.arr 7 rfl _) (hF.up (by decide) (by decide))
      · exact absurd (by decide) c15
    | succ k ih =>
      intro j G' hk hM' hF
      have ek : l - j = k + 1 := by omega
      refine A.iload_k 3 rfl rfl d_md_older_14 ?_
      refine A.if_le 55 (by decide) d_md_older_15 (fun c15 => ?_) (fun c15 => ?_)
      · exact absurd c15 (nI_nle (by omega) (by omega))
      refine A.aload_k 0 rfl rfl rfl d_md_older_18 ?_
      apply A.getfield f_md_31 d_md_older_19
      · repeat first | exact up_s | refine up_e (by decide) ?_ | exact hM'.1 | exact hM'.2.1 _ rfl
      · rfl
      refine A.iconst (v := 4) rfl d_md_older_22 ?_
      refine A.iload_k 1 rfl rfl d_md_older_23 ?_
      refine A.imul d_md_older_24 ?_
      refine A.iload_k 3 rfl rfl d_md_older_25 ?_
      refine A.iadd d_md_older_26 ?_
      refine A.dup2 rfl rfl d_md_older_27 ?_
      apply A.iaload (j := 4 * p + (k + 1)) d_md_older_28
      · repeat first | exact up_s | refine up_e (by decide) ?_ | exact hM'.1 | exact hM'.2.1 _ rfl
      · exact ix4 (by omega) (by omega)
      · show 4 * p + (k + 1) < 96; omega
      refine A.iconst (v := 1) rfl d_md_older_29 ?_
      refine A.isub d_md_older_30 ?_
      apply A.iastore (j := 4 * p + (k + 1)) d_md_older_31
      · repeat first | exact up_s | refine up_e (by decide) ?_ | exact hM'.1 | exact hM'.2.1 _ rfl
      · first | decide | omega
      · exact ix4 (by omega) (by omega)
      · show 4 * p + (k + 1) < 96; omega
      refine A.aload_k 0 rfl rfl rfl d_md_older_32 ?_
      apply A.getfield f_md_31 d_md_older_33
      · repeat first | exact up_s | refine up_e (by decide) ?_ | exact hM'.1 | exact hM'.2.1 _ rfl
      · rfl
      refine A.iconst (v := 4) rfl d_md_older_36 ?_
      refine A.iload_k 1 rfl rfl d_md_older_37 ?_
      refine A.imul d_md_older_38 ?_
      refine A.iload_k 3 rfl rfl d_md_older_39 ?_
      refine A.iadd d_md_older_40 ?_
      apply A.iaload (j := 4 * p + (k + 1)) d_md_older_41
      · repeat first | exact up_s | refine up_e (by decide) ?_ | exact hM'.1 | exact hM'.2.1 _ rfl
      · exact ix4 (by omega) (by omega)
      · show 4 * p + (k + 1) < 96; omega
      rw [pk_us]
      refine A.if_ne 49 (by decide) d_md_older_42 (fun c42 => ?_) (fun c42 => ?_)
      · refine A.iincm (n := 3) rfl (Nat.le_of_ble_eq_true rfl) d_md_older_49 ?_
        dsimp only [List.set]
        refine A.goto 14 (by decide) d_md_older_52 ?_
        (try rw [nI_pred])
        have ih := ih (j + 1) _ (by omega) (by rw [oldY_s, ek]; have z := hM'.arr 9 rfl (upd (oldY (M 9) p l j) (4 * p + (k + 1)) (oldY (M 9) p l j (4 * p + (k + 1)) - 1)); rw [bx_uu] at z; exact z) (hF.up (by decide) (by decide))
        rw [oldT_s, ek] at ih
        first | (rw [if_neg (show ¬ oldY (M 9) p l j (4 * p + (k + 1)) - 1 = 0 from c42)] at ih; exact ih) | (rw [if_pos (show oldY (M 9) p l j (4 * p + (k + 1)) - 1 = 0 from c42), nI_pred] at ih; exact ih)
      · refine A.iload_k 3 rfl rfl d_md_older_45 ?_
        refine A.iconst (v := 1) rfl d_md_older_46 ?_
        refine A.isub d_md_older_47 ?_
        refine A.istore_k 2 rfl (Nat.le_of_ble_eq_true rfl) rfl d_md_older_48 ?_
        dsimp only [List.set]
        refine A.iincm (n := 3) rfl (Nat.le_of_ble_eq_true rfl) d_md_older_49 ?_
        dsimp only [List.set]
        refine A.goto 14 (by decide) d_md_older_52 ?_
        (try rw [nI_pred])
        have ih := ih (j + 1) _ (by omega) (by rw [oldY_s, ek]; have z := hM'.arr 9 rfl (upd (oldY (M 9) p l j) (4 * p + (k + 1)) (oldY (M 9) p l j (4 * p + (k + 1)) - 1)); rw [bx_uu] at z; exact z) (hF.up (by decide) (by decide))
        rw [oldT_s, ek] at ih
        first | (rw [if_neg (show ¬ oldY (M 9) p l j (4 * p + (k + 1)) - 1 = 0 from c42)] at ih; exact ih) | (rw [if_pos (show oldY (M 9) p l j (4 * p + (k + 1)) - 1 = 0 from c42), nI_pred] at ih; exact ih)
  refine A.aload_k 0 rfl rfl rfl d_md_older_0 ?_
  apply A.getfield f_md_25 d_md_older_1
  · first | exact hM.1 | exact hM.2.1 _ rfl
  · rfl
  refine A.iload_k 1 rfl rfl d_md_older_4 ?_
  apply A.iaload (j := p) d_md_older_5
  · first | exact hM.1 | exact hM.2.1 _ rfl
  · exact ep
  · exact hp
  rw [hl]
  refine A.istore_k 2 rfl (Nat.le_of_ble_eq_true rfl) rfl d_md_older_6 ?_
  dsimp only [List.set]
  refine A.aload_k 0 rfl rfl rfl d_md_older_7 ?_
  apply A.getfield f_md_25 d_md_older_8
  · first | exact hM.1 | exact hM.2.1 _ rfl
  · rfl
  refine A.iload_k 1 rfl rfl d_md_older_11 ?_
  apply A.iaload (j := p) d_md_older_12
  · first | exact hM.1 | exact hM.2.1 _ rfl
  · exact ep
  · exact hp
  rw [hl]
  refine A.istore_k 3 rfl (Nat.le_of_ble_eq_true rfl) rfl d_md_older_13 ?_
  dsimp only [List.set]
  refine loop l 0 G (by omega) ?_ FrM.rf
  have e9 : va_up M 9 (oldY (M 9) p l 0) = M := by
    funext q
    show (if q = 9 then M 9 else _) = _
    by_cases e : q = 9
    · rw [if_pos e, e]
    · rw [if_neg e]
  rw [e9]
  exact hM
def frfM (M : MS) : Nat → MS
  | 0 => M
  | k + 1 => if frfM M k 6 k = 0 then mEnds (frfM M k) k 2 else frfM M k
theorem frfM_s (M : MS) (k : Nat) : frfM M (k + 1) = if frfM M k 6 k = 0 then mEnds (frfM M k) k 2 else frfM M k := rfl
def frfN (M : MS) : Nat → Int32
  | 0 => 0
  | k + 1 => if frfM M k 6 k = 0 then frfN M k + 1 else frfN M k
theorem frfN_s (M : MS) (k : Nat) : frfN M (k + 1) = if frfM M k 6 k = 0 then frfN M k + 1 else frfN M k := rfl
theorem WF.frf (h : WF M np) : ∀ k, WF (frfM M k) np
  | 0 => h
  | k + 1 => by
    rw [frfM_s]
    by_cases c : frfM M k 6 k = 0
    · rw [if_pos c]; exact (WF.frf h k).ends
    · rw [if_neg c]; exact WF.frf h k
def goW (M : MS) (w : Nat) : Int32 := if M 22 0 ≤ M 20 w then M 22 0 else M 20 w
def mWk (M : MS) (w : Nat) : MS := va_up (va_up M 20 (upd (M 20) w (M 20 w - goW M w))) 22 (fun _ => M 22 0 - goW M w)
def wkM (M : MS) : Nat → MS
  | 0 => M
  | w + 1 => mWk (wkM M w) w
theorem WF.wk (h : WF M np) : ∀ w, WF (wkM M w) np
  | 0 => h
  | w + 1 => ((WF.wk h w).up _ (by decide) (by decide) (by decide) (by decide) (by decide)).up _ (by decide) (by decide) (by decide) (by decide) (by decide)
theorem wkM_19 (M : MS) : ∀ w, wkM M w 19 = M 19
  | 0 => rfl
  | w + 1 => (show wkM M (w + 1) 19 = wkM M w 19 from rfl).trans (wkM_19 M w)
def oldM (M : MS) : Nat → MS
  | 0 => M
  | k + 1 => mOld (oldM M k) k (hN (oldM M k 7 k))
theorem WF.olds (h : WF M np) : ∀ k, WF (oldM M k) np
  | 0 => h
  | k + 1 => by
    have ih := WF.olds h k
    obtain ⟨l, y1, y2⟩ := ih.2.2.1 k
    refine ih.old ?_
    rw [y2, hN_nI (by omega)]
    exact y1
/-- the state behind a year -/
def mYear (M : MS) (np nw : Nat) : MS := va_up (oldM (wkM (va_up (if M 18 0 ≤ M 0 0 then frfM M np else M) 22 (fun _ => M 22 0 + M 21 0)) nw) np) 0 (fun _ => M 0 0 + 1)
theorem frfM_k {k : Nat} (h6 : k ≠ 6) (h7 : k ≠ 7) : ∀ n, frfM M n k = M k
  | 0 => rfl
  | n + 1 => by
    rw [frfM_s]
    by_cases c : frfM M n 6 n = 0
    · rw [if_pos c]
      show (if k = 7 then _ else if k = 6 then _ else frfM M n k) = _
      rw [if_neg h7, if_neg h6, frfM_k h6 h7 n]
    · rw [if_neg c, frfM_k h6 h7 n]
theorem wkM_k {k : Nat} (h6 : k ≠ 20) (h7 : k ≠ 22) : ∀ n, wkM M n k = M k
  | 0 => rfl
  | n + 1 => by
    show (if k = 22 then _ else if k = 20 then _ else wkM M n k) = _
    rw [if_neg h7, if_neg h6, wkM_k h6 h7 n]
theorem oldM_k {k : Nat} (h6 : k ≠ 9) (h7 : k ≠ 7) : ∀ n, oldM M n k = M k
  | 0 => rfl
  | n + 1 => by
    show (if k = 7 then _ else if k = 9 then _ else oldM M n k) = _
    rw [if_neg h7, if_neg h6, oldM_k h6 h7 n]
theorem c_md_year {nw : Nat} (hM : MH G M S C) (hw : WF M np) (hw1 : M 19 0 = nI nw) (hw2 : nw ≤ 20) (h0 : M 0 0 = 60 → Q (some (.int (-1))) G) (h1 : ¬ M 0 0 = 60 → ∀ G', MH G' (mYear M np nw) S C → FrM G G' → Q (some (.int (if M 18 0 ≤ M 0 0 then frfN M np else 0))) G') : A 1 M_md_year 0 [some (.ref 100), none, none, none] [] G kc ks Q := by
  have hn2 := hw.2.1
  by_cases h60 : M 0 0 = 60
  · skip
    refine A.aload_k 0 rfl rfl rfl d_md_year_0 ?_
    apply A.getfield f_md_129 d_md_year_1
    · exact hM.1
    · rfl
    refine A.bipush (v := 60) rfl d_md_year_4 ?_
    refine A.icmp_ne 11 (by decide) d_md_year_6 (fun c6 => ?_) (fun c6 => ?_)
    · exact absurd h60 c6
    refine A.iconst (v := -1) rfl d_md_year_9 ?_
    refine A.iret d_md_year_10 rfl ?_
    exact h0 h60
  have h1 := h1 h60
  -- the leases grow older
  have loop3 : ∀ (k i : Nat) (G' : AHp) (M0 : MS) (r : Int32), i + k = np → WF M0 np → MH G' (oldM M0 i) S C → FrM G G' → (∀ G', MH G' (va_up (oldM M0 np) 0 (fun _ => M0 0 0 + 1)) S C → FrM G G' → Q (some (.int r)) G') → A 1 M_md_year 139 [some (.ref 100), some (.int r), some (.int (nI i)), none] [] G' kc ks Q := by
    intro k
    induction k with
    | zero =>
      intro i G' M0 r hk hw0 hM' hF hh
      have hwi := (hw0.olds i).1
      have e : i = np := by omega
      subst e
      refine A.iload_k 2 rfl rfl d_md_year_139 ?_
      refine A.aload_k 0 rfl rfl rfl d_md_year_140 ?_
      apply A.getfield f_md_84 d_md_year_141
      · exact hM'.1
      · rfl
      rw [hwi]
      refine A.icmp_ge 158 (by decide) d_md_year_144 (fun c144 => ?_) (fun c144 => ?_)
      · refine A.aload_k 0 rfl rfl rfl d_md_year_158 ?_
        refine A.dup rfl d_md_year_159 ?_
        apply A.getfield f_md_129 d_md_year_160
        · exact hM'.1
        · rfl
        refine A.iconst (v := 1) rfl d_md_year_163 ?_
        refine A.iadd d_md_year_164 ?_
        apply A.putfield p_md_129 d_md_year_165
        · exact hM'.1
        · exact (Nat.le_of_ble_eq_true rfl)
        · rfl
        dsimp only [List.set]
        refine A.iload_k 1 rfl rfl d_md_year_168 ?_
        refine A.iret d_md_year_169 rfl ?_
        have z := hM'.fld 0 rfl (M0 0 0 + 1)
        have e0 : oldM M0 i 0 0 = M0 0 0 := by rw [oldM_k (by decide) (by decide)]
        rw [e0]
        exact hh _ z (hF.up (by decide) (by decide))
      · exact absurd (nI_le (by omega) (by omega)) c144
    | succ k ih =>
      intro i G' M0 r hk hw0 hM' hF hh
      have hwi := (hw0.olds i).1
      obtain ⟨l, y1, y2⟩ := (hw0.olds i).2.2.1 i
      refine A.iload_k 2 rfl rfl d_md_year_139 ?_
      refine A.aload_k 0 rfl rfl rfl d_md_year_140 ?_
      apply A.getfield f_md_84 d_md_year_141
      · exact hM'.1
      · rfl
      rw [hwi]
      refine A.icmp_ge 158 (by decide) d_md_year_144 (fun c144 => ?_) (fun c144 => ?_)
      · exact absurd c144 (nI_ge (by omega) (by omega))
      refine A.aload_k 0 rfl rfl rfl d_md_year_147 ?_
      refine A.iload_k 2 rfl rfl d_md_year_148 ?_
      refine A.callV1 s_md_158 ?_ (Nat.le_of_ble_eq_true rfl) (Nat.le_of_ble_eq_true rfl) (Nat.le_of_ble_eq_true rfl) d_md_year_149 rfl (c_md_older hM' (by omega) y2 y1 (fun G2 hM2 hF2 => ?_))
      · apply Exists.intro
        exact hM'.1
      dsimp only [psh]
      refine A.iincp (n := 2) rfl (Nat.le_of_ble_eq_true rfl) d_md_year_152 ?_
      dsimp only [List.set]
      refine A.goto 139 (by decide) d_md_year_155 ?_
      rw [nI_1]
      refine ih (i + 1) G2 M0 r (by omega) hw0 ?_ (hF.tr hF2) hh
      show MH G2 (mOld (oldM M0 i) i (hN (oldM M0 i 7 i))) S C
      rw [y2, hN_nI (by omega)]
      exact hM2
  -- the works are paid
  have loop2 : ∀ (k i : Nat) (G' : AHp) (M0 : MS) (r : Int32), i + k = nw → WF M0 np → M0 19 0 = nI nw → MH G' (wkM M0 i) S C → FrM G G' → (∀ G', MH G' (va_up (oldM (wkM M0 nw) np) 0 (fun _ => M0 0 0 + 1)) S C → FrM G G' → Q (some (.int r)) G') → ∀ v3, A 1 M_md_year 76 [some (.ref 100), some (.int r), some (.int (nI i)), v3] [] G' kc ks Q := by
    intro k
    induction k with
    | zero =>
      intro i G' M0 r hk hw0 hm hM' hF hh v3
      have e : i = nw := by omega
      subst e
      have e19 : wkM M0 i 19 0 = nI i := by rw [wkM_19]; exact hm
      refine A.iload_k 2 rfl rfl d_md_year_76 ?_
      refine A.aload_k 0 rfl rfl rfl d_md_year_77 ?_
      apply A.getfield f_md_155 d_md_year_78
      · exact hM'.1
      · rfl
      rw [e19]
      refine A.icmp_ge 137 (by decide) d_md_year_81 (fun c81 => ?_) (fun c81 => ?_)
      · refine A.iconst (v := 0) rfl d_md_year_137 ?_
        refine A.istore_k 2 rfl (Nat.le_of_ble_eq_true rfl) rfl d_md_year_138 ?_
        dsimp only [List.set]
        refine A.dropat 3 ?_
        dsimp only [List.set]
        refine loop3 np 0 G' (wkM M0 i) r (by omega) (hw0.wk i) hM' hF ?_
        rw [show wkM M0 i 0 0 = M0 0 0 by rw [wkM_k (by decide) (by decide)]]
        exact hh
      · exact absurd (nI_le (by omega) (by omega)) c81
    | succ k ih =>
      intro i G' M0 r hk hw0 hm hM' hF hh v3
      have e19 : wkM M0 i 19 0 = nI nw := by rw [wkM_19]; exact hm
      have J : ∀ go : Int32, go = goW (wkM M0 i) i → A 1 M_md_year 110 [some (.ref 100), some (.int r), some (.int (nI i)), v3] [.int go] G' kc ks Q := by
        intro go hgo
        have ih := fun G' => ih (i + 1) G' M0 r (by omega) hw0 hm
        have eW : wkM M0 (i + 1) = va_up (va_up (wkM M0 i) 20 (upd (wkM M0 i 20) i (wkM M0 i 20 i - go))) 22 (fun _ => wkM M0 i 22 0 - go) := by rw [hgo]; rfl
        rw [eW] at ih
        refine A.istore_k 3 rfl (Nat.le_of_ble_eq_true rfl) rfl d_md_year_110 ?_
        dsimp only [List.set]
        refine A.aload_k 0 rfl rfl rfl d_md_year_111 ?_
        apply A.getfield f_md_62 d_md_year_112
        · repeat first | exact up_s | refine up_e (by decide) ?_ | exact hM'.1 | exact hM'.2.1 _ rfl
        · rfl
        refine A.iload_k 2 rfl rfl d_md_year_115 ?_
        refine A.dup2 rfl rfl d_md_year_116 ?_
        apply A.iaload (j := i) d_md_year_117
        · repeat first | exact up_s | refine up_e (by decide) ?_ | exact hM'.1 | exact hM'.2.1 _ rfl
        · exact ixn (by omega)
        · show i < 20; omega
        refine A.iload_k 3 rfl rfl d_md_year_118 ?_
        refine A.isub d_md_year_119 ?_
        apply A.iastore (j := i) d_md_year_120
        · repeat first | exact up_s | refine up_e (by decide) ?_ | exact hM'.1 | exact hM'.2.1 _ rfl
        · first | decide | omega
        · exact ixn (by omega)
        · show i < 20; omega
        refine A.aload_k 0 rfl rfl rfl d_md_year_121 ?_
        refine A.dup rfl d_md_year_122 ?_
        apply A.getfield f_md_149 d_md_year_123
        · repeat first | exact up_s | refine up_e (by decide) ?_ | exact hM'.1 | exact hM'.2.1 _ rfl
        · rfl
        refine A.iload_k 3 rfl rfl d_md_year_126 ?_
        refine A.isub d_md_year_127 ?_
        apply A.putfield p_md_149 d_md_year_128
        · repeat first | exact up_s | refine up_e (by decide) ?_ | exact hM'.1 | exact hM'.2.1 _ rfl
        · exact (Nat.le_of_ble_eq_true rfl)
        · rfl
        dsimp only [List.set]
        refine A.iincp (n := 2) rfl (Nat.le_of_ble_eq_true rfl) d_md_year_131 ?_
        dsimp only [List.set]
        refine A.goto 76 (by decide) d_md_year_134 ?_
        rw [nI_1]
        exact ih _ ((hM'.arr 20 rfl _).fld 22 rfl _) ((hF.up (by decide) (by decide)).up (by decide) (by decide)) hh _
      refine A.iload_k 2 rfl rfl d_md_year_76 ?_
      refine A.aload_k 0 rfl rfl rfl d_md_year_77 ?_
      apply A.getfield f_md_155 d_md_year_78
      · first | exact hM'.1 | exact hM'.2.1 _ rfl
      · rfl
      rw [e19]
      refine A.icmp_ge 137 (by decide) d_md_year_81 (fun c81 => ?_) (fun c81 => ?_)
      · exact absurd c81 (nI_ge (by omega) (by omega))
      refine A.aload_k 0 rfl rfl rfl d_md_year_84 ?_
      apply A.getfield f_md_62 d_md_year_85
      · first | exact hM'.1 | exact hM'.2.1 _ rfl
      · rfl
      refine A.iload_k 2 rfl rfl d_md_year_88 ?_
      apply A.iaload (j := i) d_md_year_89
      · first | exact hM'.1 | exact hM'.2.1 _ rfl
      · exact ixn (by omega)
      · show i < 20; omega
      refine A.aload_k 0 rfl rfl rfl d_md_year_90 ?_
      apply A.getfield f_md_149 d_md_year_91
      · first | exact hM'.1 | exact hM'.2.1 _ rfl
      · rfl
      refine A.icmp_ge 106 (by decide) d_md_year_94 (fun c94 => ?_) (fun c94 => ?_)
      · refine A.aload_k 0 rfl rfl rfl d_md_year_106 ?_
        apply A.getfield f_md_149 d_md_year_107
        · first | exact hM'.1 | exact hM'.2.1 _ rfl
        · rfl
        refine J _ ?_
        unfold goW
        first | rw [if_pos c94] | rw [if_neg c94]
      · refine A.aload_k 0 rfl rfl rfl d_md_year_97 ?_
        apply A.getfield f_md_62 d_md_year_98
        · first | exact hM'.1 | exact hM'.2.1 _ rfl
        · rfl
        refine A.iload_k 2 rfl rfl d_md_year_101 ?_
        apply A.iaload (j := i) d_md_year_102
        · first | exact hM'.1 | exact hM'.2.1 _ rfl
        · exact ixn (by omega)
        · show i < 20; omega
        refine A.goto 110 (by decide) d_md_year_103 ?_
        refine J _ ?_
        unfold goW
        first | rw [if_pos c94] | rw [if_neg c94]
  have mid : ∀ (G' : AHp) (M0 : MS) (r : Int32) (v2 : Option Value), WF M0 np → M0 19 0 = nI nw → M0 22 0 = M 22 0 → M0 21 0 = M 21 0 → M0 0 0 = M 0 0 → MH G' M0 S C → FrM G G' → (∀ G', MH G' (va_up (oldM (wkM (va_up M0 22 (fun _ => M 22 0 + M 21 0)) nw) np) 0 (fun _ => M 0 0 + 1)) S C → FrM G G' → Q (some (.int r)) G') → A 1 M_md_year 61 [some (.ref 100), some (.int r), v2, none] [] G' kc ks Q := by
    intro G' M0 r v2 hw0 hm e22 e21 e0 hM' hF hh
    refine A.aload_k 0 rfl rfl rfl d_md_year_61 ?_
    refine A.dup rfl d_md_year_62 ?_
    apply A.getfield f_md_149 d_md_year_63
    · exact hM'.1
    · rfl
    refine A.aload_k 0 rfl rfl rfl d_md_year_66 ?_
    apply A.getfield f_md_152 d_md_year_67
    · exact hM'.1
    · rfl
    refine A.iadd d_md_year_70 ?_
    apply A.putfield p_md_149 d_md_year_71
    · exact hM'.1
    · exact (Nat.le_of_ble_eq_true rfl)
    · rfl
    dsimp only [List.set]
    refine A.iconst (v := 0) rfl d_md_year_74 ?_
    refine A.istore_k 2 rfl (Nat.le_of_ble_eq_true rfl) rfl d_md_year_75 ?_
    dsimp only [List.set]
    have z := hM'.fld 22 rfl (M0 22 0 + M0 21 0)
    rw [← e22, ← e21] at hh
    refine loop2 nw 0 _ (va_up M0 22 (fun _ => M0 22 0 + M0 21 0)) r (by omega) (hw0.up _ (by decide) (by decide) (by decide) (by decide) (by decide)) hm z (hF.up (by decide) (by decide)) ?_ _
    rw [show va_up M0 22 (fun _ => M0 22 0 + M0 21 0) 0 0 = M 0 0 from e0]
    exact hh
  have loop1 : ∀ (k i : Nat) (G' : AHp), M 18 0 ≤ M 0 0 → i + k = np → MH G' (frfM M i) S C → FrM G G' → A 1 M_md_year 15 [some (.ref 100), some (.int (frfN M i)), some (.int (nI i)), none] [] G' kc ks Q := by
    intro k
    induction k with
    | zero =>
      intro i G' hlim hk hM' hF
      have hwi := (hw.frf i).1
      have e : i = np := by omega
      subst e
      refine A.iload_k 2 rfl rfl d_md_year_15 ?_
      refine A.aload_k 0 rfl rfl rfl d_md_year_16 ?_
      apply A.getfield f_md_84 d_md_year_17
      · exact hM'.1
      · rfl
      rw [hwi]
      refine A.icmp_ge 61 (by decide) d_md_year_20 (fun c20 => ?_) (fun c20 => ?_)
      · unfold mYear at h1
        rw [if_pos hlim, if_pos hlim] at h1
        exact mid G' (frfM M i) _ _ (hw.frf i) (by rw [frfM_k (by decide) (by decide)]; exact hw1) (by rw [frfM_k (by decide) (by decide)]) (by rw [frfM_k (by decide) (by decide)]) (by rw [frfM_k (by decide) (by decide)]) hM' hF h1
      · exact absurd (nI_le (by omega) (by omega)) c20
    | succ k ih =>
      intro i G' hlim hk hM' hF
      have hwi := (hw.frf i).1
      have e0 : frfM M i 0 0 = M 0 0 := by rw [frfM_k (by decide) (by decide)]
      have e18 : frfM M i 18 0 = M 18 0 := by rw [frfM_k (by decide) (by decide)]
      have ih := fun G' => ih (i + 1) G' hlim (by omega)
      rw [frfM_s, frfN_s] at ih
      refine A.iload_k 2 rfl rfl d_md_year_15 ?_
      refine A.aload_k 0 rfl rfl rfl d_md_year_16 ?_
      apply A.getfield f_md_84 d_md_year_17
      · first | exact hM'.1 | exact hM'.2.1 _ rfl
      · rfl
      rw [hwi]
      refine A.icmp_ge 61 (by decide) d_md_year_20 (fun c20 => ?_) (fun c20 => ?_)
      · exact absurd c20 (nI_ge (by omega) (by omega))
      refine A.aload_k 0 rfl rfl rfl d_md_year_23 ?_
      apply A.getfield f_md_129 d_md_year_24
      · first | exact hM'.1 | exact hM'.2.1 _ rfl
      · rfl
      refine A.aload_k 0 rfl rfl rfl d_md_year_27 ?_
      apply A.getfield f_md_59 d_md_year_28
      · first | exact hM'.1 | exact hM'.2.1 _ rfl
      · rfl
      rw [e0, e18]
      refine A.icmp_lt 61 (by decide) d_md_year_31 (fun c31 => ?_) (fun c31 => ?_)
      · exact absurd hlim (Int32.not_le.mpr c31)
      refine A.aload_k 0 rfl rfl rfl d_md_year_34 ?_
      apply A.getfield f_md_22 d_md_year_35
      · first | exact hM'.1 | exact hM'.2.1 _ rfl
      · rfl
      refine A.iload_k 2 rfl rfl d_md_year_38 ?_
      apply A.iaload (j := i) d_md_year_39
      · first | exact hM'.1 | exact hM'.2.1 _ rfl
      · exact ixn (by omega)
      · show i < 24; omega
      refine A.if_eq 46 (by decide) d_md_year_40 (fun c40 => ?_) (fun c40 => ?_)
      · refine A.aload_k 0 rfl rfl rfl d_md_year_46 ?_
        refine A.iload_k 2 rfl rfl d_md_year_47 ?_
        refine A.iconst (v := 2) rfl d_md_year_48 ?_
        refine A.callV2 s_md_145 ?_ (Nat.le_of_ble_eq_true rfl) (Nat.le_of_ble_eq_true rfl) (Nat.le_of_ble_eq_true rfl) d_md_year_49 rfl (c_md_ends hM' (by omega) (fun G2 hM2 hF2 => ?_))
        · apply Exists.intro
          first | exact hM'.1 | exact hM'.2.1 _ rfl
        dsimp only [psh]
        refine A.iincp (n := 1) rfl (Nat.le_of_ble_eq_true rfl) d_md_year_52 ?_
        dsimp only [List.set]
        refine A.iincp (n := 2) rfl (Nat.le_of_ble_eq_true rfl) d_md_year_55 ?_
        dsimp only [List.set]
        refine A.goto 15 (by decide) d_md_year_58 ?_
        rw [nI_1]
        first | (rw [if_pos c40, if_pos c40] at ih; exact ih _ hM2 (hF.tr hF2)) | (rw [if_neg c40, if_neg c40] at ih; exact ih _ hM' hF)
      · refine A.goto 55 (by decide) d_md_year_43 ?_
        refine A.iincp (n := 2) rfl (Nat.le_of_ble_eq_true rfl) d_md_year_55 ?_
        dsimp only [List.set]
        refine A.goto 15 (by decide) d_md_year_58 ?_
        rw [nI_1]
        first | (rw [if_pos c40, if_pos c40] at ih; exact ih _ hM2 (hF.tr hF2)) | (rw [if_neg c40, if_neg c40] at ih; exact ih _ hM' hF)
  have early : ¬ M 18 0 ≤ M 0 0 → A 1 M_md_year 15 [some (.ref 100), some (.int 0), some (.int 0), none] [] G kc ks Q := by
    intro hlim
    unfold mYear at h1
    rw [if_neg hlim, if_neg hlim] at h1
    refine A.iload_k 2 rfl rfl d_md_year_15 ?_
    refine A.aload_k 0 rfl rfl rfl d_md_year_16 ?_
    apply A.getfield f_md_84 d_md_year_17
    · exact hM.1
    · rfl
    refine A.icmp_ge 61 (by decide) d_md_year_20 (fun c20 => ?_) (fun c20 => ?_)
    · exact mid G M 0 _ hw hw1 rfl rfl rfl hM FrM.rf h1
    · refine A.aload_k 0 rfl rfl rfl d_md_year_23 ?_
      apply A.getfield f_md_129 d_md_year_24
      · exact hM.1
      · rfl
      refine A.aload_k 0 rfl rfl rfl d_md_year_27 ?_
      apply A.getfield f_md_59 d_md_year_28
      · exact hM.1
      · rfl
      refine A.icmp_lt 61 (by decide) d_md_year_31 (fun c31 => ?_) (fun c31 => ?_)
      · exact mid G M 0 _ hw hw1 rfl rfl rfl hM FrM.rf h1
      · exact absurd (Int32.not_le.mp hlim) c31
  refine A.aload_k 0 rfl rfl rfl d_md_year_0 ?_
  apply A.getfield f_md_129 d_md_year_1
  · exact hM.1
  · rfl
  refine A.bipush (v := 60) rfl d_md_year_4 ?_
  refine A.icmp_ne 11 (by decide) d_md_year_6 (fun c6 => ?_) (fun c6 => ?_)
  · refine A.iconst (v := 0) rfl d_md_year_11 ?_
    refine A.istore_k 1 rfl (Nat.le_of_ble_eq_true rfl) rfl d_md_year_12 ?_
    dsimp only [List.set]
    refine A.iconst (v := 0) rfl d_md_year_13 ?_
    refine A.istore_k 2 rfl (Nat.le_of_ble_eq_true rfl) rfl d_md_year_14 ?_
    dsimp only [List.set]
    by_cases hlim : M 18 0 ≤ M 0 0
    · exact loop1 np 0 G hlim (by omega) hM FrM.rf
    exact early hlim
  · exact absurd c6 h60
end MODEL6
