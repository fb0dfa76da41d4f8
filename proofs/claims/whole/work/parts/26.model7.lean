/-! the reference, on: bricks -/
section MODEL7
variable {M S : MS} {C : Nat → Int64} {G : AHp} {kc ks np : Nat} {Q : Option Value → AHp → Prop}
def dueM (M : MS) (p : Nat) : Int32 := if M 13 p = -1 then M 18 0 else M 13 p
theorem c_md_dueOf {p : Nat} (hM : MH G M S C) (hp : p < 24) (h : Q (some (.int (dueM M p))) G) : A 0 M_md_dueOf 0 [some (.ref 100), some (.int (nI p))] [] G kc ks Q := by
  refine A.aload_k 0 rfl rfl rfl d_md_dueOf_0 ?_
  apply A.getfield f_md_43 d_md_dueOf_1
  · first | exact hM.1 | exact hM.2.1 _ rfl
  · rfl
  refine A.iload_k 1 rfl rfl d_md_dueOf_4 ?_
  apply A.iaload (j := p) d_md_dueOf_5
  · first | exact hM.1 | exact hM.2.1 _ rfl
  · exact ixn (by omega)
  · exact hp
  refine A.iconst (v := -1) rfl d_md_dueOf_6 ?_
  refine A.icmp_ne 17 (by decide) d_md_dueOf_7 (fun c7 => ?_) (fun c7 => ?_)
  · refine A.aload_k 0 rfl rfl rfl d_md_dueOf_17 ?_
    apply A.getfield f_md_43 d_md_dueOf_18
    · first | exact hM.1 | exact hM.2.1 _ rfl
    · rfl
    refine A.iload_k 1 rfl rfl d_md_dueOf_21 ?_
    apply A.iaload (j := p) d_md_dueOf_22
    · first | exact hM.1 | exact hM.2.1 _ rfl
    · exact ixn (by omega)
    · exact hp
    refine A.iret d_md_dueOf_23 rfl ?_
    unfold dueM at h
    first | (rw [if_neg c7] at h; exact h) | (rw [if_pos c7] at h; exact h)
  · refine A.aload_k 0 rfl rfl rfl d_md_dueOf_10 ?_
    apply A.getfield f_md_59 d_md_dueOf_11
    · first | exact hM.1 | exact hM.2.1 _ rfl
    · rfl
    refine A.goto 23 (by decide) d_md_dueOf_14 ?_
    refine A.iret d_md_dueOf_23 rfl ?_
    unfold dueM at h
    first | (rw [if_neg c7] at h; exact h) | (rw [if_pos c7] at h; exact h)
def bitI (h k : Nat) : Int32 := (nI h >>> (nI k &&& 31)) &&& 1
def ndH (M : MS) (f : Nat → Nat) (h y : Nat) : Nat → Int32
  | 0 => 0
  | k + 1 => if bitI h k = 0 then ndH M f h y k else if dueM M (f k) ≤ nI y then ndH M f h y k + (M 4 (f k) + M 5 (f k)) else ndH M f h y k
theorem ndH_s (M : MS) (f : Nat → Nat) (h y k : Nat) : ndH M f h y (k + 1) = if bitI h k = 0 then ndH M f h y k else if dueM M (f k) ≤ nI y then ndH M f h y k + (M 4 (f k) + M 5 (f k)) else ndH M f h y k := rfl
def smH (M : MS) (f : Nat → Nat) (h y : Nat) : Nat → Int32
  | 0 => 0
  | k + 1 => if bitI h k = 0 then smH M f h y k else if dueM M (f k) ≤ nI y then 1 else smH M f h y k
theorem smH_s (M : MS) (f : Nat → Nat) (h y k : Nat) : smH M f h y (k + 1) = if bitI h k = 0 then smH M f h y k else if dueM M (f k) ≤ nI y then 1 else smH M f h y k := rfl
def okY (M : MS) (f : Nat → Nat) (h n : Nat) (b : Int32) (y : Nat) : Bool := smH M f h y n = 0 || (!decide (nI y < M 0 0) && decide (ndH M f h y n ≤ b * (nI y - M 0 0 + 1)))
def cbB (M : MS) (f : Nat → Nat) (h n : Nat) (b : Int32) : Bool := (List.range 61).all (okY M f h n b)
theorem c_md_canBe {f : Nat → Nat} {h n : Nat} {b : Int32} (hM : MH G M S C) (hn : n ≤ 12) (hf : ∀ k, k < n → S 27 k = nI (f k) ∧ f k < 24) (h1 : cbB M f h n b = true → Q (some (.int 1)) G) (h0 : cbB M f h n b = false → Q (some (.int 0)) G) : A 1 M_md_canBe 0 [some (.ref 100), some (.int (nI h)), some (.int (nI n)), some (.int b), none, none, none, none] [] G kc ks Q := by
  have outer : ∀ (k y : Nat) (v5 v6 v7 : Option Value), y + k = 61 → (∀ z, z < y → okY M f h n b z = true) → A 1 M_md_canBe 3 [some (.ref 100), some (.int (nI h)), some (.int (nI n)), some (.int b), some (.int (nI y)), v5, v6, v7] [] G kc ks Q := by
    intro k
    induction k with
    | zero =>
      intro y v5 v6 v7 hk hz
      have e : y = 61 := by omega
      subst e
      refine A.iload rfl d_md_canBe_3 ?_
      refine A.bipush (v := 60) rfl d_md_canBe_5 ?_
      refine A.icmp_gt 130 (by decide) d_md_canBe_7 (fun c7 => ?_) (fun c7 => ?_)
      · refine A.iconst (v := 1) rfl d_md_canBe_130 ?_
        refine A.zret d_md_canBe_131 rfl (Or.inr rfl) ?_
        refine h1 (List.all_eq_true.mpr (fun z hz' => hz z (by simpa using hz')))
      · exact absurd (by decide) c7
    | succ k ih =>
      intro y v5 v6 v7 hk hz
      have inner : ∀ (k2 i : Nat), i + k2 = n → A 1 M_md_canBe 19 [some (.ref 100), some (.int (nI h)), some (.int (nI n)), some (.int b), some (.int (nI y)), some (.int (ndH M f h y i)), some (.int (smH M f h y i)), some (.int (nI i))] [] G kc ks Q := by
        intro k2
        induction k2 with
        | zero =>
          intro i hi
          have e : i = n := by omega
          subst e
          refine A.iload rfl d_md_canBe_19 ?_
          refine A.iload_k 2 rfl rfl d_md_canBe_21 ?_
          refine A.icmp_ge 92 (by decide) d_md_canBe_22 (fun c22 => ?_) (fun c22 => ?_)
          · refine A.iload rfl d_md_canBe_92 ?_
            refine A.if_eq 124 (by decide) d_md_canBe_94 (fun c94 => ?_) (fun c94 => ?_)
            · refine A.iincp (n := 4) rfl (Nat.le_of_ble_eq_true rfl) d_md_canBe_124 ?_
              dsimp only [List.set]
              refine A.goto 3 (by decide) d_md_canBe_127 ?_
              rw [nI_1]
              refine ih (y + 1) _ _ _ (by omega) (fun z hz' => ?_)
              by_cases e : z = y
              · subst e
                unfold okY
                simp only [Bool.or_eq_true, Bool.and_eq_true, decide_eq_true_eq, Bool.not_eq_true', decide_eq_false_iff_not]
                first | exact Or.inl c94 | exact Or.inr ⟨c103, c119⟩
              · exact hz z (by omega)
            · refine A.iload rfl d_md_canBe_97 ?_
              refine A.aload_k 0 rfl rfl rfl d_md_canBe_99 ?_
              apply A.getfield f_md_129 d_md_canBe_100
              · exact hM.1
              · rfl
              refine A.icmp_lt 122 (by decide) d_md_canBe_103 (fun c103 => ?_) (fun c103 => ?_)
              · refine A.iconst (v := 0) rfl d_md_canBe_122 ?_
                refine A.zret d_md_canBe_123 rfl (Or.inl rfl) ?_
                refine h0 (Bool.eq_false_iff.mpr (fun z => ?_))
                have z := List.all_eq_true.mp z y (by simp; omega)
                unfold okY at z
                simp only [Bool.or_eq_true, Bool.and_eq_true, decide_eq_true_eq, Bool.not_eq_true', decide_eq_false_iff_not] at z
                rcases z with z | z
                · exact c94 z
                · first | exact z.1 c103 | exact c119 z.2
              · refine A.iload rfl d_md_canBe_106 ?_
                refine A.iload_k 3 rfl rfl d_md_canBe_108 ?_
                refine A.iload rfl d_md_canBe_109 ?_
                refine A.aload_k 0 rfl rfl rfl d_md_canBe_111 ?_
                apply A.getfield f_md_129 d_md_canBe_112
                · exact hM.1
                · rfl
                refine A.isub d_md_canBe_115 ?_
                refine A.iconst (v := 1) rfl d_md_canBe_116 ?_
                refine A.iadd d_md_canBe_117 ?_
                refine A.imul d_md_canBe_118 ?_
                refine A.icmp_le 124 (by decide) d_md_canBe_119 (fun c119 => ?_) (fun c119 => ?_)
                · refine A.iincp (n := 4) rfl (Nat.le_of_ble_eq_true rfl) d_md_canBe_124 ?_
                  dsimp only [List.set]
                  refine A.goto 3 (by decide) d_md_canBe_127 ?_
                  rw [nI_1]
                  refine ih (y + 1) _ _ _ (by omega) (fun z hz' => ?_)
                  by_cases e : z = y
                  · subst e
                    unfold okY
                    simp only [Bool.or_eq_true, Bool.and_eq_true, decide_eq_true_eq, Bool.not_eq_true', decide_eq_false_iff_not]
                    first | exact Or.inl c94 | exact Or.inr ⟨c103, c119⟩
                  · exact hz z (by omega)
                · refine A.iconst (v := 0) rfl d_md_canBe_122 ?_
                  refine A.zret d_md_canBe_123 rfl (Or.inl rfl) ?_
                  refine h0 (Bool.eq_false_iff.mpr (fun z => ?_))
                  have z := List.all_eq_true.mp z y (by simp; omega)
                  unfold okY at z
                  simp only [Bool.or_eq_true, Bool.and_eq_true, decide_eq_true_eq, Bool.not_eq_true', decide_eq_false_iff_not] at z
                  rcases z with z | z
                  · exact c94 z
                  · first | exact z.1 c103 | exact c119 z.2
          · exact absurd (nI_le (by omega) (by omega)) c22
        | succ k2 ih2 =>
          intro i hi
          have ih2 := ih2 (i + 1) (by omega)
          rw [ndH_s, smH_s] at ih2
          obtain ⟨f1, f2⟩ := hf i (by omega)
          refine A.iload rfl d_md_canBe_19 ?_
          refine A.iload_k 2 rfl rfl d_md_canBe_21 ?_
          refine A.icmp_ge 92 (by decide) d_md_canBe_22 (fun c22 => ?_) (fun c22 => ?_)
          · exact absurd c22 (nI_ge (by omega) (by omega))
          refine A.iload_k 1 rfl rfl d_md_canBe_25 ?_
          refine A.iload rfl d_md_canBe_26 ?_
          refine A.ishr d_md_canBe_28 ?_
          refine A.iconst (v := 1) rfl d_md_canBe_29 ?_
          refine A.iand d_md_canBe_30 ?_
          refine A.if_eq 86 (by decide) d_md_canBe_31 (fun c31 => ?_) (fun c31 => ?_)
          · refine A.iincp (n := 7) rfl (Nat.le_of_ble_eq_true rfl) d_md_canBe_86 ?_
            dsimp only [List.set]
            refine A.goto 19 (by decide) d_md_canBe_89 ?_
            rw [nI_1]
            first | (rw [if_pos (show bitI h i = 0 from c31), if_pos (show bitI h i = 0 from c31)] at ih2; exact ih2) | (rw [if_neg (show ¬ bitI h i = 0 from c31), if_neg (show ¬ bitI h i = 0 from c31), if_pos c47, if_pos c47] at ih2; exact ih2) | (rw [if_neg (show ¬ bitI h i = 0 from c31), if_neg (show ¬ bitI h i = 0 from c31), if_neg c47, if_neg c47] at ih2; exact ih2)
          · refine A.aload_k 0 rfl rfl rfl d_md_canBe_34 ?_
            refine A.aload_k 0 rfl rfl rfl d_md_canBe_35 ?_
            apply A.getfield f_md_75 d_md_canBe_36
            · first | exact hM.1 | exact hM.2.1 _ rfl | exact hM.2.2.1 _ rfl
            · rfl
            refine A.iload rfl d_md_canBe_39 ?_
            apply A.iaload (j := i) d_md_canBe_41
            · first | exact hM.1 | exact hM.2.1 _ rfl | exact hM.2.2.1 _ rfl
            · exact ixn (by omega)
            · show i < 12; omega
            rw [f1]
            refine A.callV1 s_md_162 ?_ (Nat.le_of_ble_eq_true rfl) (Nat.le_of_ble_eq_true rfl) (Nat.le_of_ble_eq_true rfl) d_md_canBe_42 rfl (c_md_dueOf hM f2 ?_)
            · apply Exists.intro
              first | exact hM.1 | exact hM.2.1 _ rfl | exact hM.2.2.1 _ rfl
            dsimp only [psh]
            refine A.iload rfl d_md_canBe_45 ?_
            refine A.icmp_le 53 (by decide) d_md_canBe_47 (fun c47 => ?_) (fun c47 => ?_)
            · refine A.iload rfl d_md_canBe_53 ?_
              refine A.aload_k 0 rfl rfl rfl d_md_canBe_55 ?_
              apply A.getfield f_md_16 d_md_canBe_56
              · first | exact hM.1 | exact hM.2.1 _ rfl | exact hM.2.2.1 _ rfl
              · rfl
              refine A.aload_k 0 rfl rfl rfl d_md_canBe_59 ?_
              apply A.getfield f_md_75 d_md_canBe_60
              · first | exact hM.1 | exact hM.2.1 _ rfl | exact hM.2.2.1 _ rfl
              · rfl
              refine A.iload rfl d_md_canBe_63 ?_
              apply A.iaload (j := i) d_md_canBe_65
              · first | exact hM.1 | exact hM.2.1 _ rfl | exact hM.2.2.1 _ rfl
              · exact ixn (by omega)
              · show i < 12; omega
              apply A.iaload (j := f i) d_md_canBe_66
              · first | exact hM.1 | exact hM.2.1 _ rfl | exact hM.2.2.1 _ rfl
              · rw [f1]; exact ixn (by omega)
              · exact f2
              refine A.aload_k 0 rfl rfl rfl d_md_canBe_67 ?_
              apply A.getfield f_md_19 d_md_canBe_68
              · first | exact hM.1 | exact hM.2.1 _ rfl | exact hM.2.2.1 _ rfl
              · rfl
              refine A.aload_k 0 rfl rfl rfl d_md_canBe_71 ?_
              apply A.getfield f_md_75 d_md_canBe_72
              · first | exact hM.1 | exact hM.2.1 _ rfl | exact hM.2.2.1 _ rfl
              · rfl
              refine A.iload rfl d_md_canBe_75 ?_
              apply A.iaload (j := i) d_md_canBe_77
              · first | exact hM.1 | exact hM.2.1 _ rfl | exact hM.2.2.1 _ rfl
              · exact ixn (by omega)
              · show i < 12; omega
              apply A.iaload (j := f i) d_md_canBe_78
              · first | exact hM.1 | exact hM.2.1 _ rfl | exact hM.2.2.1 _ rfl
              · rw [f1]; exact ixn (by omega)
              · exact f2
              refine A.iadd d_md_canBe_79 ?_
              refine A.iadd d_md_canBe_80 ?_
              refine A.istore (Nat.le_of_ble_eq_true rfl) rfl d_md_canBe_81 ?_
              dsimp only [List.set]
              refine A.iconst (v := 1) rfl d_md_canBe_83 ?_
              refine A.istore (Nat.le_of_ble_eq_true rfl) rfl d_md_canBe_84 ?_
              dsimp only [List.set]
              refine A.iincp (n := 7) rfl (Nat.le_of_ble_eq_true rfl) d_md_canBe_86 ?_
              dsimp only [List.set]
              refine A.goto 19 (by decide) d_md_canBe_89 ?_
              rw [nI_1]
              first | (rw [if_pos (show bitI h i = 0 from c31), if_pos (show bitI h i = 0 from c31)] at ih2; exact ih2) | (rw [if_neg (show ¬ bitI h i = 0 from c31), if_neg (show ¬ bitI h i = 0 from c31), if_pos c47, if_pos c47] at ih2; exact ih2) | (rw [if_neg (show ¬ bitI h i = 0 from c31), if_neg (show ¬ bitI h i = 0 from c31), if_neg c47, if_neg c47] at ih2; exact ih2)
            · refine A.goto 86 (by decide) d_md_canBe_50 ?_
              refine A.iincp (n := 7) rfl (Nat.le_of_ble_eq_true rfl) d_md_canBe_86 ?_
              dsimp only [List.set]
              refine A.goto 19 (by decide) d_md_canBe_89 ?_
              rw [nI_1]
              first | (rw [if_pos (show bitI h i = 0 from c31), if_pos (show bitI h i = 0 from c31)] at ih2; exact ih2) | (rw [if_neg (show ¬ bitI h i = 0 from c31), if_neg (show ¬ bitI h i = 0 from c31), if_pos c47, if_pos c47] at ih2; exact ih2) | (rw [if_neg (show ¬ bitI h i = 0 from c31), if_neg (show ¬ bitI h i = 0 from c31), if_neg c47, if_neg c47] at ih2; exact ih2)
      refine A.iload rfl d_md_canBe_3 ?_
      refine A.bipush (v := 60) rfl d_md_canBe_5 ?_
      refine A.icmp_gt 130 (by decide) d_md_canBe_7 (fun c7 => ?_) (fun c7 => ?_)
      · exact absurd c7 (nI_nlt (a := 60) (b := y) (by omega) (by omega))
      refine A.iconst (v := 0) rfl d_md_canBe_10 ?_
      refine A.istore (Nat.le_of_ble_eq_true rfl) rfl d_md_canBe_11 ?_
      dsimp only [List.set]
      refine A.iconst (v := 0) rfl d_md_canBe_13 ?_
      refine A.istore (Nat.le_of_ble_eq_true rfl) rfl d_md_canBe_14 ?_
      dsimp only [List.set]
      refine A.iconst (v := 0) rfl d_md_canBe_16 ?_
      refine A.istore (Nat.le_of_ble_eq_true rfl) rfl d_md_canBe_17 ?_
      dsimp only [List.set]
      exact inner n 0 (by omega)
  refine A.iconst (v := 0) rfl d_md_canBe_0 ?_
  refine A.istore (Nat.le_of_ble_eq_true rfl) rfl d_md_canBe_1 ?_
  dsimp only [List.set]
  exact outer 61 0 none none none (by omega) (fun z hz => by omega)
def sumH (M : MS) (f : Nat → Nat) (h : Nat) : Nat → Int32
  | 0 => 0
  | k + 1 => sumH M f h k + (if bitI h k = 1 then wthM M (f k) else 0)
theorem sumH_s (M : MS) (f : Nat → Nat) (h k : Nat) : sumH M f h (k + 1) = sumH M f h k + (if bitI h k = 1 then wthM M (f k) else 0) := rfl
def cvH (f : Nat → Nat) (h : Nat) : Nat → Int32
  | 0 => 0
  | k + 1 => cvH f h k ||| (bitI h k <<< (nI (f k) &&& 31))
theorem cvH_s (f : Nat → Nat) (h k : Nat) : cvH f h (k + 1) = cvH f h k ||| (bitI h k <<< (nI (f k) &&& 31)) := rfl
/-- the best heap of those below h, and its worth -/
def bsM (M : MS) (f : Nat → Nat) (n : Nat) (b x : Int32) : Nat → Int32 × Int32
  | 0 => (-1, x)
  | h + 1 => if sumH M f h n ≤ (bsM M f n b x h).1 then bsM M f n b x h else if cbB M f h n b = true then (sumH M f h n, cvH f h n) else bsM M f n b x h
theorem bsM_s (M : MS) (f : Nat → Nat) (n : Nat) (b x : Int32) (h : Nat) : bsM M f n b x (h + 1) = if sumH M f h n ≤ (bsM M f n b x h).1 then bsM M f n b x h else if cbB M f h n b = true then (sumH M f h n, cvH f h n) else bsM M f n b x h := rfl
/-- the burned plots below p -/
def brn (M : MS) : Nat → List Nat
  | 0 => []
  | p + 1 => if M 6 p = 0 then brn M p ++ [p] else brn M p
theorem brn_s (M : MS) (p : Nat) : brn M (p + 1) = if M 6 p = 0 then brn M p ++ [p] else brn M p := rfl
theorem brn_lt (M : MS) : ∀ p q, q ∈ brn M p → q < p
  | 0, q, h => by simp [brn] at h
  | p + 1, q, h => by
    rw [brn_s] at h
    by_cases c : M 6 p = 0
    · rw [if_pos c, List.mem_append] at h
      rcases h with h | h
      · have := brn_lt M p q h; omega
      · simp at h; omega
    · rw [if_neg c] at h
      have := brn_lt M p q h; omega
theorem brn_mono (M : MS) (p : Nat) : ∀ k, (brn M p).length ≤ (brn M (p + k)).length
  | 0 => Nat.le_refl _
  | k + 1 => by
    have := brn_mono M p k
    rw [show p + (k + 1) = p + k + 1 by omega, brn_s]
    by_cases c : M 6 (p + k) = 0
    · rw [if_pos c, List.length_append]; omega
    · rw [if_neg c]; exact this
theorem shl1 : ∀ n, n ≤ 12 → (1 : Int32) <<< (nI n &&& 31) = nI (2 ^ n) := by
  intro n hn
  have : ∀ m : Fin 13, (1 : Int32) <<< (nI m.val &&& 31) = nI (2 ^ m.val) := by decide
  exact this ⟨n, by omega⟩
theorem pow12 {n : Nat} (h : n ≤ 12) : 2 ^ n ≤ 4096 := by
  have : ∀ m : Fin 13, 2 ^ m.val ≤ 4096 := by decide
  exact this ⟨n, by omega⟩
theorem getD_upd {L : List Nat} {f : Nat → Int32} {i : Nat} (hf : ∀ j, j < L.length → f j = nI (L.getD j 0)) {j : Nat} (hj : j < L.length + 1) : upd f L.length (nI i) j = nI ((L ++ [i]).getD j 0) := by
  by_cases e : j = L.length
  · subst e
    rw [pk_us, List.getD_eq_getElem?_getD, List.getElem?_append_right (Nat.le_refl _), Nat.sub_self]
    rfl
  · have hj' : j < L.length := by omega
    rw [pk_un e, hf j hj', List.getD_eq_getElem?_getD, List.getD_eq_getElem?_getD, List.getElem?_append_left hj']
theorem c_md_saves {b : Int32} (hM : MH G M S C) (hw : WF M np) (h0 : ¬ (1 ≤ b ∧ b ≤ 2000) ∨ 12 < (brn M np).length → ∀ G' S', MH G' M S' C → FrM G G' → Q (some (.int 0)) G')
    (h1 : 1 ≤ b → b ≤ 2000 → (brn M np).length ≤ 12 → ∀ G' S', MH G' M S' C → FrM G G' → (∃ x, (S' 28 0, S' 29 0) = bsM M (fun k => (brn M np).getD k 0) (brn M np).length b x (2 ^ (brn M np).length)) → Q (some (.int 1)) G') : A 3 M_md_saves 0 [some (.ref 100), some (.int b), none, none, none, none] [] G kc ks Q := by
  obtain ⟨hn, hn2, -⟩ := hw
  have main : ∀ (n : Nat) (G' : AHp) (S' : MS) (v3 : Option Value), n = (brn M np).length → n ≤ 12 → 1 ≤ b → b ≤ 2000 → (∀ k, k < n → S' 27 k = nI ((brn M np).getD k 0)) → MH G' M S' C → FrM G G' → A 3 M_md_saves 61 [some (.ref 100), some (.int b), some (.int (nI n)), v3, none, none] [] G' kc ks Q := by
    intro n G1 S1 v3 en hn12 b1 b2 hf1 hM1 hF1
    have h1 := h1 b1 b2 (by omega)
    rw [← en] at h1
    have hfl : ∀ k, k < n → (brn M np).getD k 0 < np := fun k hk => by
      have : (brn M np).getD k 0 ∈ brn M np := by
        rw [List.getD_eq_getElem?_getD, List.getElem?_eq_getElem (by omega)]
        exact List.getElem_mem _
      exact brn_lt M np _ this
    generalize hfe : (fun k => (brn M np).getD k 0) = f at h1
    have hfe' : ∀ k, (brn M np).getD k 0 = f k := fun k => by rw [← hfe]
    have hf1 : ∀ k, k < n → S1 27 k = nI (f k) := fun k hk => by rw [← hfe' k]; exact hf1 k hk
    have hfl : ∀ k, k < n → f k < np := fun k hk => by rw [← hfe' k]; exact hfl k hk
    have hp12 := pow12 hn12
    clear h0 en hfe hfe'
    have loopH : ∀ (k h : Nat) (G2 : AHp) (S2 : MS) (v4 v5 : Option Value), h + k = 2 ^ n → MH G2 M S2 C → FrM G G2 → (∀ j, j < n → S2 27 j = nI (f j)) → (∃ x, (S2 28 0, S2 29 0) = bsM M f n b x h) → A 3 M_md_saves 68 [some (.ref 100), some (.int b), some (.int (nI n)), some (.int (nI h)), v4, v5] [] G2 kc ks Q := by
      intro k
      induction k with
      | zero =>
        intro h G2 S2 v4 v5 hk hM2 hF2 hf2 hb2
        have e : h = 2 ^ n := by omega
        subst e
        refine A.iload_k 3 rfl rfl d_md_saves_68 ?_
        refine A.iconst (v := 1) rfl d_md_saves_69 ?_
        refine A.iload_k 2 rfl rfl d_md_saves_70 ?_
        refine A.ishl d_md_saves_71 ?_
        rw [shl1 n hn12]
        refine A.icmp_ge 200 (by decide) d_md_saves_72 (fun c72 => ?_) (fun c72 => ?_)
        · refine A.iconst (v := 1) rfl d_md_saves_200 ?_
          refine A.zret d_md_saves_201 rfl (Or.inr rfl) ?_
          exact h1 G2 S2 hM2 hF2 hb2
        · exact absurd (nI_le (Nat.le_refl _) (by omega)) c72
      | succ k ih =>
        intro h G2 S2 v4 v5 hk hM2 hF2 hf2 hb2
        -- the heap is the best so far: its number
        have loopB : ∀ (k2 i : Nat) (G3 : AHp) (S3 : MS), i + k2 = n → MH G3 M S3 C → FrM G G3 → (∀ j, j < n → S3 27 j = nI (f j)) → S3 28 0 = sumH M f h n → S3 29 0 = cvH f h i → (∃ x, bsM M f n b x (h + 1) = (sumH M f h n, cvH f h n)) → A 3 M_md_saves 159 [some (.ref 100), some (.int b), some (.int (nI n)), some (.int (nI h)), some (.int (sumH M f h n)), some (.int (nI i))] [] G3 kc ks Q := by
          intro k2
          induction k2 with
          | zero =>
            intro i G3 S3 hi hM3 hF3 hf3 e28 e29 hx
            have e : i = n := by omega
            subst e
            refine A.iload rfl d_md_saves_159 ?_
            refine A.iload_k 2 rfl rfl d_md_saves_161 ?_
            refine A.icmp_ge 194 (by decide) d_md_saves_162 (fun c162 => ?_) (fun c162 => ?_)
            · refine A.iincp (n := 3) rfl (Nat.le_of_ble_eq_true rfl) d_md_saves_194 ?_
              dsimp only [List.set]
              refine A.goto 68 (by decide) d_md_saves_197 ?_
              rw [nI_1]
              obtain ⟨x, hx⟩ := hx
              exact ih (h + 1) G3 S3 _ _ (by omega) hM3 hF3 hf3 ⟨x, by rw [e28, e29, hx]⟩
            · exact absurd (nI_le (Nat.le_refl _) (by omega)) c162
          | succ k2 ih2 =>
            intro i G3 S3 hi hM3 hF3 hf3 e28 e29 hx
            refine A.iload rfl d_md_saves_159 ?_
            refine A.iload_k 2 rfl rfl d_md_saves_161 ?_
            refine A.icmp_ge 194 (by decide) d_md_saves_162 (fun c162 => ?_) (fun c162 => ?_)
            · exact absurd c162 (nI_ge (by omega) (by omega))
            refine A.aload_k 0 rfl rfl rfl d_md_saves_165 ?_
            refine A.dup rfl d_md_saves_166 ?_
            apply A.getfield f_md_171 d_md_saves_167
            · first | exact hM3.1 | exact hM3.2.1 _ rfl | exact hM3.2.2.1 _ rfl
            · rfl
            refine A.iload_k 3 rfl rfl d_md_saves_170 ?_
            refine A.iload rfl d_md_saves_171 ?_
            refine A.ishr d_md_saves_173 ?_
            refine A.iconst (v := 1) rfl d_md_saves_174 ?_
            refine A.iand d_md_saves_175 ?_
            refine A.aload_k 0 rfl rfl rfl d_md_saves_176 ?_
            apply A.getfield f_md_75 d_md_saves_177
            · first | exact hM3.1 | exact hM3.2.1 _ rfl | exact hM3.2.2.1 _ rfl
            · rfl
            refine A.iload rfl d_md_saves_180 ?_
            apply A.iaload (j := i) d_md_saves_182
            · first | exact hM3.1 | exact hM3.2.1 _ rfl | exact hM3.2.2.1 _ rfl
            · exact ixn (by omega)
            · show i < 12; omega
            rw [hf3 i (by omega)]
            refine A.ishl d_md_saves_183 ?_
            refine A.ior d_md_saves_184 ?_
            apply A.putfield p_md_171 d_md_saves_185
            · first | exact hM3.1 | exact hM3.2.1 _ rfl | exact hM3.2.2.1 _ rfl
            · exact (Nat.le_of_ble_eq_true rfl)
            · rfl
            dsimp only [List.set]
            refine A.iincp (n := 5) rfl (Nat.le_of_ble_eq_true rfl) d_md_saves_188 ?_
            dsimp only [List.set]
            refine A.goto 159 (by decide) d_md_saves_191 ?_
            rw [nI_1]
            refine ih2 (i + 1) _ (va_up S3 29 (fun _ => S3 29 0 ||| (bitI h i <<< (nI (f i) &&& 31)))) (by omega) (hM3.sfl 29 rfl _) (hF3.up (by decide) (by decide)) hf3 e28 ?_ hx
            show S3 29 0 ||| _ = _
            rw [cvH_s, e29]
        have loopS : ∀ (k2 i : Nat), i + k2 = n → A 3 M_md_saves 81 [some (.ref 100), some (.int b), some (.int (nI n)), some (.int (nI h)), some (.int (sumH M f h i)), some (.int (nI i))] [] G2 kc ks Q := by
          intro k2
          induction k2 with
          | zero =>
            intro i hi
            have e : i = n := by omega
            subst e
            obtain ⟨x, hb2⟩ := hb2
            have e28 : S2 28 0 = (bsM M f i b x h).1 := by rw [← hb2]
            have hs := bsM_s M f i b x h
            refine A.iload rfl d_md_saves_81 ?_
            refine A.iload_k 2 rfl rfl d_md_saves_83 ?_
            refine A.icmp_ge 123 (by decide) d_md_saves_84 (fun c84 => ?_) (fun c84 => ?_)
            · refine A.iload rfl d_md_saves_123 ?_
              refine A.aload_k 0 rfl rfl rfl d_md_saves_125 ?_
              apply A.getfield f_md_165 d_md_saves_126
              · first | exact hM2.1 | exact hM2.2.1 _ rfl | exact hM2.2.2.1 _ rfl
              · rfl
              refine A.icmp_le 194 (by decide) d_md_saves_129 (fun c129 => ?_) (fun c129 => ?_)
              · refine A.iincp (n := 3) rfl (Nat.le_of_ble_eq_true rfl) d_md_saves_194 ?_
                dsimp only [List.set]
                refine A.goto 68 (by decide) d_md_saves_197 ?_
                rw [nI_1]
                refine ih (h + 1) G2 S2 _ _ (by omega) hM2 hF2 hf2 ⟨x, ?_⟩
                rw [hs, hb2]
                rw [e28] at c129
                first | rw [if_pos c129] | rw [if_neg c129, if_neg (by rw [w2]; decide)]
              · refine A.aload_k 0 rfl rfl rfl d_md_saves_132 ?_
                refine A.iload_k 3 rfl rfl d_md_saves_133 ?_
                refine A.iload_k 2 rfl rfl d_md_saves_134 ?_
                refine A.iload_k 1 rfl rfl d_md_saves_135 ?_
                refine A.callV3 s_md_168 ?_ (Nat.le_of_ble_eq_true rfl) (Nat.le_of_ble_eq_true rfl) (Nat.le_of_ble_eq_true rfl) d_md_saves_136 rfl (c_md_canBe hM2 hn12 (fun k hk => ⟨hf2 k hk, by have := hfl k hk; omega⟩) (fun w1 => ?_) (fun w2 => ?_))
                · apply Exists.intro
                  first | exact hM2.1 | exact hM2.2.1 _ rfl | exact hM2.2.2.1 _ rfl
                · dsimp only [psh]
                  refine A.if_ne1 145 (by decide) d_md_saves_139 ?_
                  refine A.aload_k 0 rfl rfl rfl d_md_saves_145 ?_
                  refine A.iload rfl d_md_saves_146 ?_
                  apply A.putfield p_md_165 d_md_saves_148
                  · first | exact hM2.1 | exact hM2.2.1 _ rfl | exact hM2.2.2.1 _ rfl
                  · exact (Nat.le_of_ble_eq_true rfl)
                  · rfl
                  dsimp only [List.set]
                  refine A.aload_k 0 rfl rfl rfl d_md_saves_151 ?_
                  refine A.iconst (v := 0) rfl d_md_saves_152 ?_
                  apply A.putfield p_md_171 d_md_saves_153
                  · exact up_s
                  · exact (Nat.le_of_ble_eq_true rfl)
                  · rfl
                  dsimp only [List.set]
                  refine A.iconst (v := 0) rfl d_md_saves_156 ?_
                  refine A.istore (Nat.le_of_ble_eq_true rfl) rfl d_md_saves_157 ?_
                  dsimp only [List.set]
                  rw [e28] at c129
                  refine loopB i 0 _ (va_up (va_up S2 28 (fun _ => sumH M f h i)) 29 (fun _ => 0)) (by omega) ?_ ((hF2.up (by decide) (by decide)).up (by decide) (by decide)) hf2 rfl rfl ⟨x, by rw [hs, if_neg c129, if_pos w1]⟩
                  exact (hM2.sfl 28 rfl (sumH M f h i)).sfl 29 rfl 0
                · dsimp only [psh]
                  refine A.if_ne0 d_md_saves_139 (tgt := 145) (by decide) ?_
                  refine A.goto 194 (by decide) d_md_saves_142 ?_
                  refine A.iincp (n := 3) rfl (Nat.le_of_ble_eq_true rfl) d_md_saves_194 ?_
                  dsimp only [List.set]
                  refine A.goto 68 (by decide) d_md_saves_197 ?_
                  rw [nI_1]
                  refine ih (h + 1) G2 S2 _ _ (by omega) hM2 hF2 hf2 ⟨x, ?_⟩
                  rw [hs, hb2]
                  rw [e28] at c129
                  first | rw [if_pos c129] | rw [if_neg c129, if_neg (by rw [w2]; decide)]
            · exact absurd (nI_le (Nat.le_refl _) (by omega)) c84
          | succ k2 ih2 =>
            intro i hi
            have ih2 := ih2 (i + 1) (by omega)
            rw [sumH_s] at ih2
            have f2 := hfl i (by omega)
            refine A.iload rfl d_md_saves_81 ?_
            refine A.iload_k 2 rfl rfl d_md_saves_83 ?_
            refine A.icmp_ge 123 (by decide) d_md_saves_84 (fun c84 => ?_) (fun c84 => ?_)
            · exact absurd c84 (nI_ge (by omega) (by omega))
            refine A.iload rfl d_md_saves_87 ?_
            refine A.iload_k 3 rfl rfl d_md_saves_89 ?_
            refine A.iload rfl d_md_saves_90 ?_
            refine A.ishr d_md_saves_92 ?_
            refine A.iconst (v := 1) rfl d_md_saves_93 ?_
            refine A.iand d_md_saves_94 ?_
            refine A.iconst (v := 1) rfl d_md_saves_95 ?_
            refine A.icmp_ne 113 (by decide) d_md_saves_96 (fun c96 => ?_) (fun c96 => ?_)
            · refine A.iconst (v := 0) rfl d_md_saves_113 ?_
              refine A.iadd d_md_saves_114 ?_
              refine A.istore (Nat.le_of_ble_eq_true rfl) rfl d_md_saves_115 ?_
              dsimp only [List.set]
              refine A.iincp (n := 5) rfl (Nat.le_of_ble_eq_true rfl) d_md_saves_117 ?_
              dsimp only [List.set]
              refine A.goto 81 (by decide) d_md_saves_120 ?_
              rw [nI_1]
              first | (rw [if_pos (show bitI h i = 1 from c96)] at ih2; exact ih2) | (rw [if_neg (show ¬ bitI h i = 1 from c96)] at ih2; exact ih2)
            · refine A.aload_k 0 rfl rfl rfl d_md_saves_99 ?_
              refine A.aload_k 0 rfl rfl rfl d_md_saves_100 ?_
              apply A.getfield f_md_75 d_md_saves_101
              · first | exact hM2.1 | exact hM2.2.1 _ rfl | exact hM2.2.2.1 _ rfl
              · rfl
              refine A.iload rfl d_md_saves_104 ?_
              apply A.iaload (j := i) d_md_saves_106
              · first | exact hM2.1 | exact hM2.2.1 _ rfl | exact hM2.2.2.1 _ rfl
              · exact ixn (by omega)
              · show i < 12; omega
              rw [hf2 i (by omega)]
              refine A.callV1 s_md_107 ?_ (Nat.le_of_ble_eq_true rfl) (Nat.le_of_ble_eq_true rfl) (Nat.le_of_ble_eq_true rfl) d_md_saves_107 rfl (c_md_worth hM2 hn hn2 (fun p' w1 w2 => ?_) (fun w3 => absurd rfl (w3 (f i) f2)))
              · apply Exists.intro
                first | exact hM2.1 | exact hM2.2.1 _ rfl | exact hM2.2.2.1 _ rfl
              have w2 := nI_inj (by omega) (by omega) w2
              subst w2
              dsimp only [psh]
              refine A.goto 114 (by decide) d_md_saves_110 ?_
              refine A.iadd d_md_saves_114 ?_
              refine A.istore (Nat.le_of_ble_eq_true rfl) rfl d_md_saves_115 ?_
              dsimp only [List.set]
              refine A.iincp (n := 5) rfl (Nat.le_of_ble_eq_true rfl) d_md_saves_117 ?_
              dsimp only [List.set]
              refine A.goto 81 (by decide) d_md_saves_120 ?_
              rw [nI_1]
              first | (rw [if_pos (show bitI h i = 1 from c96)] at ih2; exact ih2) | (rw [if_neg (show ¬ bitI h i = 1 from c96)] at ih2; exact ih2)
        refine A.iload_k 3 rfl rfl d_md_saves_68 ?_
        refine A.iconst (v := 1) rfl d_md_saves_69 ?_
        refine A.iload_k 2 rfl rfl d_md_saves_70 ?_
        refine A.ishl d_md_saves_71 ?_
        rw [shl1 n hn12]
        refine A.icmp_ge 200 (by decide) d_md_saves_72 (fun c72 => ?_) (fun c72 => ?_)
        · exact absurd c72 (nI_ge (by omega) (by omega))
        refine A.iconst (v := 0) rfl d_md_saves_75 ?_
        refine A.istore (Nat.le_of_ble_eq_true rfl) rfl d_md_saves_76 ?_
        dsimp only [List.set]
        refine A.iconst (v := 0) rfl d_md_saves_78 ?_
        refine A.istore (Nat.le_of_ble_eq_true rfl) rfl d_md_saves_79 ?_
        dsimp only [List.set]
        exact loopS n 0 (by omega)
    refine A.aload_k 0 rfl rfl rfl d_md_saves_61 ?_
    refine A.iconst (v := -1) rfl d_md_saves_62 ?_
    apply A.putfield p_md_165 d_md_saves_63
    · exact hM1.1
    · exact (Nat.le_of_ble_eq_true rfl)
    · rfl
    dsimp only [List.set]
    refine A.iconst (v := 0) rfl d_md_saves_66 ?_
    refine A.istore_k 3 rfl (Nat.le_of_ble_eq_true rfl) rfl d_md_saves_67 ?_
    dsimp only [List.set]
    refine loopH (2 ^ n) 0 _ (va_up S1 28 (fun _ => -1)) none none (by omega) (hM1.sfl 28 rfl (-1)) (hF1.up (by decide) (by decide)) hf1 ⟨S1 29 0, rfl⟩
  have collect : ∀ (k i : Nat) (G' : AHp) (S' : MS), i + k = np → (brn M i).length ≤ 12 → 1 ≤ b → b ≤ 2000 → (∀ j, j < (brn M i).length → S' 27 j = nI ((brn M i).getD j 0)) → MH G' M S' C → FrM G G' → A 3 M_md_saves 17 [some (.ref 100), some (.int b), some (.int (nI (brn M i).length)), some (.int (nI i)), none, none] [] G' kc ks Q := by
    intro k
    induction k with
    | zero =>
      intro i G' S' hk hl b1 b2 hf hM' hF
      have e : i = np := by omega
      subst e
      refine A.iload_k 3 rfl rfl d_md_saves_17 ?_
      refine A.aload_k 0 rfl rfl rfl d_md_saves_18 ?_
      apply A.getfield f_md_84 d_md_saves_19
      · exact hM'.1
      · rfl
      rw [hn]
      refine A.icmp_ge 61 (by decide) d_md_saves_22 (fun c22 => ?_) (fun c22 => ?_)
      · exact main _ G' S' _ rfl hl b1 b2 hf hM' hF
      · exact absurd (nI_le (Nat.le_refl _) (by omega)) c22
    | succ k ih =>
      intro i G' S' hk hl b1 b2 hf hM' hF
      have hs := brn_s M i
      have ih := fun G' S' => ih (i + 1) G' S' (by omega)
      refine A.iload_k 3 rfl rfl d_md_saves_17 ?_
      refine A.aload_k 0 rfl rfl rfl d_md_saves_18 ?_
      apply A.getfield f_md_84 d_md_saves_19
      · first | exact hM'.1 | exact hM'.2.1 _ rfl | exact hM'.2.2.1 _ rfl
      · rfl
      rw [hn]
      refine A.icmp_ge 61 (by decide) d_md_saves_22 (fun c22 => ?_) (fun c22 => ?_)
      · exact absurd c22 (nI_ge (by omega) (by omega))
      refine A.aload_k 0 rfl rfl rfl d_md_saves_25 ?_
      apply A.getfield f_md_22 d_md_saves_26
      · first | exact hM'.1 | exact hM'.2.1 _ rfl | exact hM'.2.2.1 _ rfl
      · rfl
      refine A.iload_k 3 rfl rfl d_md_saves_29 ?_
      apply A.iaload (j := i) d_md_saves_30
      · first | exact hM'.1 | exact hM'.2.1 _ rfl | exact hM'.2.2.1 _ rfl
      · exact ixn (by omega)
      · show i < 24; omega
      refine A.if_eq 37 (by decide) d_md_saves_31 (fun c31 => ?_) (fun c31 => ?_)
      · refine A.iload_k 2 rfl rfl d_md_saves_37 ?_
        refine A.bipush (v := 12) rfl d_md_saves_38 ?_
        refine A.icmp_ne 45 (by decide) d_md_saves_40 (fun c40 => ?_) (fun c40 => ?_)
        · have h12 : (brn M i).length < 12 := by
            rcases Nat.lt_or_ge (brn M i).length 12 with y | y
            · exact y
            · exact absurd (by rw [show (brn M i).length = 12 by omega]; rfl) c40
          refine A.aload_k 0 rfl rfl rfl d_md_saves_45 ?_
          apply A.getfield f_md_75 d_md_saves_46
          · first | exact hM'.1 | exact hM'.2.1 _ rfl | exact hM'.2.2.1 _ rfl
          · rfl
          refine A.iload_k 2 rfl rfl d_md_saves_49 ?_
          refine A.iload_k 3 rfl rfl d_md_saves_50 ?_
          apply A.iastore (j := (brn M i).length) d_md_saves_51
          · first | exact hM'.1 | exact hM'.2.1 _ rfl | exact hM'.2.2.1 _ rfl
          · first | decide | omega
          · exact ixn (by omega)
          · show _ < 12; omega
          refine A.iincp (n := 2) rfl (Nat.le_of_ble_eq_true rfl) d_md_saves_52 ?_
          dsimp only [List.set]
          refine A.iincp (n := 3) rfl (Nat.le_of_ble_eq_true rfl) d_md_saves_55 ?_
          dsimp only [List.set]
          refine A.goto 17 (by decide) d_md_saves_58 ?_
          rw [nI_1]
          first | (rw [hs, if_neg c31] at ih; exact ih G' S' hl b1 b2 hf hM' hF) | (rw [hs, if_pos c31, List.length_append] at ih; rw [nI_1]; exact ih _ _ (by simp; omega) b1 b2 (fun j hj => getD_upd hf (by simpa using hj)) (hM'.scr 27 rfl _) (hF.up (by decide) (by decide)))
        · refine A.iconst (v := 0) rfl d_md_saves_43 ?_
          refine A.zret d_md_saves_44 rfl (Or.inl rfl) ?_
          refine h0 (Or.inr ?_) G' S' hM' hF
          have e12 := nI_inj (b := 12) (by omega) (by omega) c40
          have := brn_mono M (i + 1) k
          rw [show i + 1 + k = np by omega, hs, if_pos c31, List.length_append] at this
          simp at this
          omega
      · refine A.goto 55 (by decide) d_md_saves_34 ?_
        refine A.iincp (n := 3) rfl (Nat.le_of_ble_eq_true rfl) d_md_saves_55 ?_
        dsimp only [List.set]
        refine A.goto 17 (by decide) d_md_saves_58 ?_
        rw [nI_1]
        first | (rw [hs, if_neg c31] at ih; exact ih G' S' hl b1 b2 hf hM' hF) | (rw [hs, if_pos c31, List.length_append] at ih; rw [nI_1]; exact ih _ _ (by simp; omega) b1 b2 (fun j hj => getD_upd hf (by simpa using hj)) (hM'.scr 27 rfl _) (hF.up (by decide) (by decide)))
  refine A.iload_k 1 rfl rfl d_md_saves_0 ?_
  refine A.iconst (v := 1) rfl d_md_saves_1 ?_
  refine A.sipush (v := 2000) rfl d_md_saves_2 ?_
  refine A.callS3 s_md_87 (Nat.le_of_ble_eq_true rfl) (Nat.le_of_ble_eq_true rfl) (Nat.le_of_ble_eq_true rfl) d_md_saves_5 rfl (c_md_in (fun i1 i2 => ?_) (fun i3 => ?_))
  · dsimp only [psh]
    refine A.if_ne1 13 (by decide) d_md_saves_8 ?_
    refine A.iconst (v := 0) rfl d_md_saves_13 ?_
    refine A.istore_k 2 rfl (Nat.le_of_ble_eq_true rfl) rfl d_md_saves_14 ?_
    dsimp only [List.set]
    refine A.iconst (v := 0) rfl d_md_saves_15 ?_
    refine A.istore_k 3 rfl (Nat.le_of_ble_eq_true rfl) rfl d_md_saves_16 ?_
    dsimp only [List.set]
    exact collect np 0 G S (by omega) (by simp [brn]) i1 i2 (fun j hj => by simp [brn] at hj) hM FrM.rf
  · dsimp only [psh]
    refine A.if_ne0 d_md_saves_8 (tgt := 13) (by decide) ?_
    refine A.iconst (v := 0) rfl d_md_saves_11 ?_
    refine A.zret d_md_saves_12 rfl (Or.inl rfl) ?_
    exact h0 (Or.inl i3) G S hM FrM.rf
theorem c_md_saved {b : Int32} (hM : MH G M S C) (hw : WF M np) (h0 : ¬ (1 ≤ b ∧ b ≤ 2000) ∨ 12 < (brn M np).length → ∀ G' S', MH G' M S' C → FrM G G' → Q (some (.int (-1))) G')
    (h1 : 1 ≤ b → b ≤ 2000 → (brn M np).length ≤ 12 → ∀ G' S', MH G' M S' C → FrM G G' → ∀ x, Q (some (.int (bsM M (fun k => (brn M np).getD k 0) (brn M np).length b x (2 ^ (brn M np).length)).1)) G') : A 4 M_md_saved 0 [some (.ref 100), some (.int b)] [] G kc ks Q := by
  refine A.aload_k 0 rfl rfl rfl d_md_saved_0 ?_
  refine A.iload_k 1 rfl rfl d_md_saved_1 ?_
  refine A.callV1 s_md_174 ?_ (Nat.le_of_ble_eq_true rfl) (Nat.le_of_ble_eq_true rfl) (Nat.le_of_ble_eq_true rfl) d_md_saved_2 rfl (c_md_saves hM hw (fun z G' S' hM' hF => ?_) (fun y1 y2 y3 G' S' hM' hF hx => ?_))
  · apply Exists.intro
    first | exact hM.1 | exact hM'.1
  · dsimp only [psh]
    refine A.if_eq0 15 (by decide) d_md_saved_5 ?_
    refine A.iconst (v := -1) rfl d_md_saved_15 ?_
    refine A.iret d_md_saved_16 rfl ?_
    first | exact h0 z G' S' hM' hF | (obtain ⟨x, hx⟩ := hx; rw [show S' 28 0 = _ from congrArg Prod.fst hx]; exact h1 y1 y2 y3 G' S' hM' hF x)
  · dsimp only [psh]
    refine A.if_eq1 d_md_saved_5 (tgt := 15) (by decide) ?_
    refine A.aload_k 0 rfl rfl rfl d_md_saved_8 ?_
    apply A.getfield f_md_165 d_md_saved_9
    · first | exact hM.1 | exact hM'.1
    · rfl
    refine A.goto 16 (by decide) d_md_saved_12 ?_
    refine A.iret d_md_saved_16 rfl ?_
    first | exact h0 z G' S' hM' hF | (obtain ⟨x, hx⟩ := hx; rw [show S' 28 0 = _ from congrArg Prod.fst hx]; exact h1 y1 y2 y3 G' S' hM' hF x)
theorem c_md_heap {b : Int32} (hM : MH G M S C) (hw : WF M np) (h0 : ¬ (1 ≤ b ∧ b ≤ 2000) ∨ 12 < (brn M np).length → ∀ G' S', MH G' M S' C → FrM G G' → Q (some (.int (-1))) G')
    (h1 : 1 ≤ b → b ≤ 2000 → (brn M np).length ≤ 12 → ∀ G' S', MH G' M S' C → FrM G G' → ∀ x, Q (some (.int (bsM M (fun k => (brn M np).getD k 0) (brn M np).length b x (2 ^ (brn M np).length)).2)) G') : A 4 M_md_heap 0 [some (.ref 100), some (.int b)] [] G kc ks Q := by
  refine A.aload_k 0 rfl rfl rfl d_md_heap_0 ?_
  refine A.iload_k 1 rfl rfl d_md_heap_1 ?_
  refine A.callV1 s_md_174 ?_ (Nat.le_of_ble_eq_true rfl) (Nat.le_of_ble_eq_true rfl) (Nat.le_of_ble_eq_true rfl) d_md_heap_2 rfl (c_md_saves hM hw (fun z G' S' hM' hF => ?_) (fun y1 y2 y3 G' S' hM' hF hx => ?_))
  · apply Exists.intro
    first | exact hM.1 | exact hM'.1
  · dsimp only [psh]
    refine A.if_eq0 15 (by decide) d_md_heap_5 ?_
    refine A.iconst (v := -1) rfl d_md_heap_15 ?_
    refine A.iret d_md_heap_16 rfl ?_
    first | exact h0 z G' S' hM' hF | (obtain ⟨x, hx⟩ := hx; rw [show S' 29 0 = _ from congrArg Prod.snd hx]; exact h1 y1 y2 y3 G' S' hM' hF x)
  · dsimp only [psh]
    refine A.if_eq1 d_md_heap_5 (tgt := 15) (by decide) ?_
    refine A.aload_k 0 rfl rfl rfl d_md_heap_8 ?_
    apply A.getfield f_md_171 d_md_heap_9
    · first | exact hM.1 | exact hM'.1
    · rfl
    refine A.goto 16 (by decide) d_md_heap_12 ?_
    refine A.iret d_md_heap_16 rfl ?_
    first | exact h0 z G' S' hM' hF | (obtain ⟨x, hx⟩ := hx; rw [show S' 29 0 = _ from congrArg Prod.snd hx]; exact h1 y1 y2 y3 G' S' hM' hF x)
end MODEL7
