/-! the reference, on: walls, parts, decrees -/
theorem lgc0 {x y : Int64} : lg_cmp x y = 0 ↔ x = y := by
  unfold lg_cmp
  by_cases h : x > y
  · rw [if_pos h]
    exact ⟨fun e => absurd e (by decide), fun e => by subst e; exact absurd h Int64.lt_irrefl⟩
  · rw [if_neg h]
    by_cases e : x = y
    · simp [e]
    · simp [e]
theorem lgcle {x y : Int64} : lg_cmp x y ≤ 0 ↔ ¬ y < x := by
  unfold lg_cmp
  by_cases h : x > y
  · rw [if_pos h]
    exact ⟨fun e => absurd e (by decide), fun e => absurd h e⟩
  · rw [if_neg h]
    refine ⟨fun _ => h, fun _ => ?_⟩
    by_cases e : x = y
    · rw [if_pos e]; decide
    · rw [if_neg e]; decide
theorem nI_hN {x : Int32} (h : 0 ≤ x) : nI (hN x) = x := by
  rw [Int32.le_iff_toInt_le] at h
  have h : 0 ≤ x.toInt := h
  have h2 := Int32.toInt_lt x
  apply Int32.toInt_inj.mp
  unfold hN
  rw [nI_toInt (by omega)]
  omega
theorem hN_lt (x : Int32) : hN x < 2147483648 := by
  have h2 := Int32.toInt_lt x
  unfold hN
  omega
theorem hN_le {x : Int32} (h : x ≤ 0) : hN x = 0 := by
  rw [Int32.le_iff_toInt_le] at h
  have h : x.toInt ≤ 0 := h
  unfold hN
  omega
section MODEL3
variable {M S : MS} {C : Nat → Int64} {G : AHp} {kc ks np : Nat} {Q : Option Value → AHp → Prop}
def minD (M : MS) (a b : Nat) : Int32 := if M 5 b ≤ M 5 a then M 5 b else M 5 a
def mWall (M : MS) (a b o : Nat) : MS := if M 14 a = -1 then va_up (va_up (va_up M 14 (upd (M 14) a (nI o))) 15 (upd (M 15) a (3 * minD M a b))) 1 (upd (M 1) o (M 1 o - 3 * minD M a b))
  else va_up M 1 (upd (upd (M 1) o (M 1 o - M 15 a / 2)) (hN (M 14 a)) (upd (M 1) o (M 1 o - M 15 a / 2) (hN (M 14 a)) + M 15 a / 2))
theorem c_md_wall {x z : Int32} {o : Nat} (hM : MH G M S C) (hw : WF M np) (ho : o < 20) (hx : x = -1 ∨ ∃ a, a < np ∧ x = nI a) (hz : z = -1 ∨ ∃ b, b < np ∧ z = nI b)
    (h0 : (x = -1 ∨ z = -1 ∨ (∃ a, a < np ∧ x = nI a ∧ (M 6 a = 2 ∨ M 6 a = 3)) ∨ ∃ b, b < np ∧ z = nI b ∧ (M 6 b = 2 ∨ M 6 b = 3)) → Q none G)
    (h1 : ∀ a b, a < np → b < np → x = nI a → z = nI b → ¬ (M 6 a = 2 ∨ M 6 a = 3) → ¬ (M 6 b = 2 ∨ M 6 b = 3) → ∀ G', MH G' (mWall M a b o) S C → FrM G G' → Q none G') : A 1 M_md_wall 0 [some (.ref 100), some (.int x), some (.int z), some (.int (nI o))] [] G kc ks Q := by
  obtain ⟨hn, hn2, -, -, hwl, -⟩ := hw
  refine A.iload_k 1 rfl rfl d_md_wall_0 ?_
  refine A.iconst (v := -1) rfl d_md_wall_1 ?_
  refine A.icmp_eq 26 (by decide) d_md_wall_2 (fun c2 => ?_) (fun c2 => ?_)
  · refine A.vret d_md_wall_26 rfl ?_
    first | exact h0 (Or.inl c2) | exact h0 (Or.inr (Or.inl c7)) | exact h0 (Or.inr (Or.inr (Or.inl ⟨a, ha, rfl, g1⟩))) | exact h0 (Or.inr (Or.inr (Or.inr ⟨b, hb, rfl, g3⟩)))
  · refine A.iload_k 2 rfl rfl d_md_wall_5 ?_
    refine A.iconst (v := -1) rfl d_md_wall_6 ?_
    refine A.icmp_eq 26 (by decide) d_md_wall_7 (fun c7 => ?_) (fun c7 => ?_)
    · refine A.vret d_md_wall_26 rfl ?_
      first | exact h0 (Or.inl c2) | exact h0 (Or.inr (Or.inl c7)) | exact h0 (Or.inr (Or.inr (Or.inl ⟨a, ha, rfl, g1⟩))) | exact h0 (Or.inr (Or.inr (Or.inr ⟨b, hb, rfl, g3⟩)))
    · rcases hx with hx | ⟨a, ha, hx⟩
      · exact absurd hx c2
      rcases hz with hz | ⟨b, hb, hz⟩
      · exact absurd hz c7
      subst hx
      subst hz
      refine A.aload_k 0 rfl rfl rfl d_md_wall_10 ?_
      refine A.iload_k 1 rfl rfl d_md_wall_11 ?_
      refine A.callV1 s_md_104 ?_ (Nat.le_of_ble_eq_true rfl) (Nat.le_of_ble_eq_true rfl) (Nat.le_of_ble_eq_true rfl) d_md_wall_12 rfl (c_md_isGone hM (by omega) (fun g1 => ?_) (fun g2 => ?_))
      · apply Exists.intro
        repeat first | exact up_s | refine up_e (by decide) ?_ | exact hM.1 | exact hM.2.1 _ rfl
      · dsimp only [psh]
        refine A.if_ne1 26 (by decide) d_md_wall_15 ?_
        refine A.vret d_md_wall_26 rfl ?_
        first | exact h0 (Or.inl c2) | exact h0 (Or.inr (Or.inl c7)) | exact h0 (Or.inr (Or.inr (Or.inl ⟨a, ha, rfl, g1⟩))) | exact h0 (Or.inr (Or.inr (Or.inr ⟨b, hb, rfl, g3⟩)))
      · dsimp only [psh]
        refine A.if_ne0 d_md_wall_15 (tgt := 26) (by decide) ?_
        refine A.aload_k 0 rfl rfl rfl d_md_wall_18 ?_
        refine A.iload_k 2 rfl rfl d_md_wall_19 ?_
        refine A.callV1 s_md_104 ?_ (Nat.le_of_ble_eq_true rfl) (Nat.le_of_ble_eq_true rfl) (Nat.le_of_ble_eq_true rfl) d_md_wall_20 rfl (c_md_isGone hM (by omega) (fun g3 => ?_) (fun g4 => ?_))
        · apply Exists.intro
          repeat first | exact up_s | refine up_e (by decide) ?_ | exact hM.1 | exact hM.2.1 _ rfl
        · dsimp only [psh]
          refine A.if_eq1 d_md_wall_23 (tgt := 27) (by decide) ?_
          refine A.vret d_md_wall_26 rfl ?_
          first | exact h0 (Or.inl c2) | exact h0 (Or.inr (Or.inl c7)) | exact h0 (Or.inr (Or.inr (Or.inl ⟨a, ha, rfl, g1⟩))) | exact h0 (Or.inr (Or.inr (Or.inr ⟨b, hb, rfl, g3⟩)))
        · dsimp only [psh]
          refine A.if_eq0 27 (by decide) d_md_wall_23 ?_
          refine A.aload_k 0 rfl rfl rfl d_md_wall_27 ?_
          apply A.getfield f_md_46 d_md_wall_28
          · repeat first | exact up_s | refine up_e (by decide) ?_ | exact hM.1 | exact hM.2.1 _ rfl
          · rfl
          refine A.iload_k 1 rfl rfl d_md_wall_31 ?_
          apply A.iaload (j := a) d_md_wall_32
          · repeat first | exact up_s | refine up_e (by decide) ?_ | exact hM.1 | exact hM.2.1 _ rfl
          · exact ixn (by omega)
          · show a < 24; omega
          refine A.iconst (v := -1) rfl d_md_wall_33 ?_
          refine A.icmp_ne 100 (by decide) d_md_wall_34 (fun c34 => ?_) (fun c34 => ?_)
          · have hwa : ∃ w, w < 20 ∧ M 14 a = nI w := (hwl a).resolve_left c34
            obtain ⟨w, hw1, hw2⟩ := hwa
            refine A.aload_k 0 rfl rfl rfl d_md_wall_100 ?_
            apply A.getfield f_md_9 d_md_wall_101
            · repeat first | exact up_s | refine up_e (by decide) ?_ | exact hM.1 | exact hM.2.1 _ rfl
            · rfl
            refine A.iload_k 3 rfl rfl d_md_wall_104 ?_
            refine A.dup2 rfl rfl d_md_wall_105 ?_
            apply A.iaload (j := o) d_md_wall_106
            · repeat first | exact up_s | refine up_e (by decide) ?_ | exact hM.1 | exact hM.2.1 _ rfl
            · exact ixn (by omega)
            · show o < 20; omega
            refine A.aload_k 0 rfl rfl rfl d_md_wall_107 ?_
            apply A.getfield f_md_49 d_md_wall_108
            · repeat first | exact up_s | refine up_e (by decide) ?_ | exact hM.1 | exact hM.2.1 _ rfl
            · rfl
            refine A.iload_k 1 rfl rfl d_md_wall_111 ?_
            apply A.iaload (j := a) d_md_wall_112
            · repeat first | exact up_s | refine up_e (by decide) ?_ | exact hM.1 | exact hM.2.1 _ rfl
            · exact ixn (by omega)
            · show a < 24; omega
            refine A.iconst (v := 2) rfl d_md_wall_113 ?_
            refine A.idiv (by decide) d_md_wall_114 ?_
            refine A.isub d_md_wall_115 ?_
            apply A.iastore (j := o) d_md_wall_116
            · repeat first | exact up_s | refine up_e (by decide) ?_ | exact hM.1 | exact hM.2.1 _ rfl
            · first | decide | omega
            · exact ixn (by omega)
            · show o < 20; omega
            refine A.aload_k 0 rfl rfl rfl d_md_wall_117 ?_
            apply A.getfield f_md_9 d_md_wall_118
            · repeat first | exact up_s | refine up_e (by decide) ?_ | exact hM.1 | exact hM.2.1 _ rfl
            · rfl
            refine A.aload_k 0 rfl rfl rfl d_md_wall_121 ?_
            apply A.getfield f_md_46 d_md_wall_122
            · repeat first | exact up_s | refine up_e (by decide) ?_ | exact hM.1 | exact hM.2.1 _ rfl
            · rfl
            refine A.iload_k 1 rfl rfl d_md_wall_125 ?_
            apply A.iaload (j := a) d_md_wall_126
            · repeat first | exact up_s | refine up_e (by decide) ?_ | exact hM.1 | exact hM.2.1 _ rfl
            · exact ixn (by omega)
            · show a < 24; omega
            refine A.dup2 rfl rfl d_md_wall_127 ?_
            apply A.iaload (j := hN (M 14 a)) d_md_wall_128
            · repeat first | exact up_s | refine up_e (by decide) ?_ | exact hM.1 | exact hM.2.1 _ rfl
            · rw [hw2, hN_nI (by omega)]; exact ixn (by omega)
            · rw [hw2, hN_nI (by omega)]; exact hw1
            refine A.aload_k 0 rfl rfl rfl d_md_wall_129 ?_
            apply A.getfield f_md_49 d_md_wall_130
            · repeat first | exact up_s | refine up_e (by decide) ?_ | exact hM.1 | exact hM.2.1 _ rfl
            · rfl
            refine A.iload_k 1 rfl rfl d_md_wall_133 ?_
            apply A.iaload (j := a) d_md_wall_134
            · repeat first | exact up_s | refine up_e (by decide) ?_ | exact hM.1 | exact hM.2.1 _ rfl
            · exact ixn (by omega)
            · show a < 24; omega
            refine A.iconst (v := 2) rfl d_md_wall_135 ?_
            refine A.idiv (by decide) d_md_wall_136 ?_
            refine A.iadd d_md_wall_137 ?_
            apply A.iastore (j := hN (M 14 a)) d_md_wall_138
            · repeat first | exact up_s | refine up_e (by decide) ?_ | exact hM.1 | exact hM.2.1 _ rfl
            · first | decide | omega
            · rw [hw2, hN_nI (by omega)]; exact ixn (by omega)
            · rw [hw2, hN_nI (by omega)]; exact hw1
            refine A.vret d_md_wall_139 rfl ?_
            have h1 := h1 a b ha hb rfl rfl g2 g4
            unfold mWall at h1
            first | (rw [if_neg c34] at h1; exact h1 _ (hM.arr2 1 rfl _ _) (by repeat (first | exact FrM.rf | refine FrM.up ?_ (by decide) (by decide)))) | (rw [if_pos c34] at h1; unfold minD at h1; rw [if_pos c62] at h1; exact h1 _ (((hM.arr 14 rfl _).arr 15 rfl _).arr 1 rfl _) (by repeat (first | exact FrM.rf | refine FrM.up ?_ (by decide) (by decide)))) | (rw [if_pos c34] at h1; unfold minD at h1; rw [if_neg c62] at h1; exact h1 _ (((hM.arr 14 rfl _).arr 15 rfl _).arr 1 rfl _) (by repeat (first | exact FrM.rf | refine FrM.up ?_ (by decide) (by decide))))
          · refine A.aload_k 0 rfl rfl rfl d_md_wall_37 ?_
            apply A.getfield f_md_46 d_md_wall_38
            · repeat first | exact up_s | refine up_e (by decide) ?_ | exact hM.1 | exact hM.2.1 _ rfl
            · rfl
            refine A.iload_k 1 rfl rfl d_md_wall_41 ?_
            refine A.iload_k 3 rfl rfl d_md_wall_42 ?_
            apply A.iastore (j := a) d_md_wall_43
            · repeat first | exact up_s | refine up_e (by decide) ?_ | exact hM.1 | exact hM.2.1 _ rfl
            · first | decide | omega
            · exact ixn (by omega)
            · show a < 24; omega
            refine A.aload_k 0 rfl rfl rfl d_md_wall_44 ?_
            apply A.getfield f_md_49 d_md_wall_45
            · repeat first | exact up_s | refine up_e (by decide) ?_ | exact hM.1 | exact hM.2.1 _ rfl
            · rfl
            refine A.iload_k 1 rfl rfl d_md_wall_48 ?_
            refine A.iconst (v := 3) rfl d_md_wall_49 ?_
            refine A.aload_k 0 rfl rfl rfl d_md_wall_50 ?_
            apply A.getfield f_md_19 d_md_wall_51
            · repeat first | exact up_s | refine up_e (by decide) ?_ | exact hM.1 | exact hM.2.1 _ rfl
            · rfl
            refine A.iload_k 1 rfl rfl d_md_wall_54 ?_
            apply A.iaload (j := a) d_md_wall_55
            · repeat first | exact up_s | refine up_e (by decide) ?_ | exact hM.1 | exact hM.2.1 _ rfl
            · exact ixn (by omega)
            · show a < 24; omega
            refine A.aload_k 0 rfl rfl rfl d_md_wall_56 ?_
            apply A.getfield f_md_19 d_md_wall_57
            · repeat first | exact up_s | refine up_e (by decide) ?_ | exact hM.1 | exact hM.2.1 _ rfl
            · rfl
            refine A.iload_k 2 rfl rfl d_md_wall_60 ?_
            apply A.iaload (j := b) d_md_wall_61
            · repeat first | exact up_s | refine up_e (by decide) ?_ | exact hM.1 | exact hM.2.1 _ rfl
            · exact ixn (by omega)
            · show b < 24; omega
            refine A.icmp_ge 74 (by decide) d_md_wall_62 (fun c62 => ?_) (fun c62 => ?_)
            · refine A.aload_k 0 rfl rfl rfl d_md_wall_74 ?_
              apply A.getfield f_md_19 d_md_wall_75
              · repeat first | exact up_s | refine up_e (by decide) ?_ | exact hM.1 | exact hM.2.1 _ rfl
              · rfl
              refine A.iload_k 2 rfl rfl d_md_wall_78 ?_
              apply A.iaload (j := b) d_md_wall_79
              · repeat first | exact up_s | refine up_e (by decide) ?_ | exact hM.1 | exact hM.2.1 _ rfl
              · exact ixn (by omega)
              · show b < 24; omega
              refine A.imul d_md_wall_80 ?_
              apply A.iastore (j := a) d_md_wall_81
              · repeat first | exact up_s | refine up_e (by decide) ?_ | exact hM.1 | exact hM.2.1 _ rfl
              · first | decide | omega
              · exact ixn (by omega)
              · show a < 24; omega
              refine A.aload_k 0 rfl rfl rfl d_md_wall_82 ?_
              apply A.getfield f_md_9 d_md_wall_83
              · repeat first | exact up_s | refine up_e (by decide) ?_ | exact hM.1 | exact hM.2.1 _ rfl
              · rfl
              refine A.iload_k 3 rfl rfl d_md_wall_86 ?_
              refine A.dup2 rfl rfl d_md_wall_87 ?_
              apply A.iaload (j := o) d_md_wall_88
              · repeat first | exact up_s | refine up_e (by decide) ?_ | exact hM.1 | exact hM.2.1 _ rfl
              · exact ixn (by omega)
              · show o < 20; omega
              refine A.aload_k 0 rfl rfl rfl d_md_wall_89 ?_
              apply A.getfield f_md_49 d_md_wall_90
              · repeat first | exact up_s | refine up_e (by decide) ?_ | exact hM.1 | exact hM.2.1 _ rfl
              · rfl
              refine A.iload_k 1 rfl rfl d_md_wall_93 ?_
              apply A.iaload (j := a) d_md_wall_94
              · repeat first | exact up_s | refine up_e (by decide) ?_ | exact hM.1 | exact hM.2.1 _ rfl
              · exact ixn (by omega)
              · show a < 24; omega
              rw [pk_us]
              refine A.isub d_md_wall_95 ?_
              apply A.iastore (j := o) d_md_wall_96
              · repeat first | exact up_s | refine up_e (by decide) ?_ | exact hM.1 | exact hM.2.1 _ rfl
              · first | decide | omega
              · exact ixn (by omega)
              · show o < 20; omega
              refine A.goto 139 (by decide) d_md_wall_97 ?_
              refine A.vret d_md_wall_139 rfl ?_
              have h1 := h1 a b ha hb rfl rfl g2 g4
              unfold mWall at h1
              first | (rw [if_neg c34] at h1; exact h1 _ (hM.arr2 1 rfl _ _) (by repeat (first | exact FrM.rf | refine FrM.up ?_ (by decide) (by decide)))) | (rw [if_pos c34] at h1; unfold minD at h1; rw [if_pos c62] at h1; exact h1 _ (((hM.arr 14 rfl _).arr 15 rfl _).arr 1 rfl _) (by repeat (first | exact FrM.rf | refine FrM.up ?_ (by decide) (by decide)))) | (rw [if_pos c34] at h1; unfold minD at h1; rw [if_neg c62] at h1; exact h1 _ (((hM.arr 14 rfl _).arr 15 rfl _).arr 1 rfl _) (by repeat (first | exact FrM.rf | refine FrM.up ?_ (by decide) (by decide))))
            · refine A.aload_k 0 rfl rfl rfl d_md_wall_65 ?_
              apply A.getfield f_md_19 d_md_wall_66
              · repeat first | exact up_s | refine up_e (by decide) ?_ | exact hM.1 | exact hM.2.1 _ rfl
              · rfl
              refine A.iload_k 1 rfl rfl d_md_wall_69 ?_
              apply A.iaload (j := a) d_md_wall_70
              · repeat first | exact up_s | refine up_e (by decide) ?_ | exact hM.1 | exact hM.2.1 _ rfl
              · exact ixn (by omega)
              · show a < 24; omega
              refine A.goto 80 (by decide) d_md_wall_71 ?_
              refine A.imul d_md_wall_80 ?_
              apply A.iastore (j := a) d_md_wall_81
              · repeat first | exact up_s | refine up_e (by decide) ?_ | exact hM.1 | exact hM.2.1 _ rfl
              · first | decide | omega
              · exact ixn (by omega)
              · show a < 24; omega
              refine A.aload_k 0 rfl rfl rfl d_md_wall_82 ?_
              apply A.getfield f_md_9 d_md_wall_83
              · repeat first | exact up_s | refine up_e (by decide) ?_ | exact hM.1 | exact hM.2.1 _ rfl
              · rfl
              refine A.iload_k 3 rfl rfl d_md_wall_86 ?_
              refine A.dup2 rfl rfl d_md_wall_87 ?_
              apply A.iaload (j := o) d_md_wall_88
              · repeat first | exact up_s | refine up_e (by decide) ?_ | exact hM.1 | exact hM.2.1 _ rfl
              · exact ixn (by omega)
              · show o < 20; omega
              refine A.aload_k 0 rfl rfl rfl d_md_wall_89 ?_
              apply A.getfield f_md_49 d_md_wall_90
              · repeat first | exact up_s | refine up_e (by decide) ?_ | exact hM.1 | exact hM.2.1 _ rfl
              · rfl
              refine A.iload_k 1 rfl rfl d_md_wall_93 ?_
              apply A.iaload (j := a) d_md_wall_94
              · repeat first | exact up_s | refine up_e (by decide) ?_ | exact hM.1 | exact hM.2.1 _ rfl
              · exact ixn (by omega)
              · show a < 24; omega
              rw [pk_us]
              refine A.isub d_md_wall_95 ?_
              apply A.iastore (j := o) d_md_wall_96
              · repeat first | exact up_s | refine up_e (by decide) ?_ | exact hM.1 | exact hM.2.1 _ rfl
              · first | decide | omega
              · exact ixn (by omega)
              · show o < 20; omega
              refine A.goto 139 (by decide) d_md_wall_97 ?_
              refine A.vret d_md_wall_139 rfl ?_
              have h1 := h1 a b ha hb rfl rfl g2 g4
              unfold mWall at h1
              first | (rw [if_neg c34] at h1; exact h1 _ (hM.arr2 1 rfl _ _) (by repeat (first | exact FrM.rf | refine FrM.up ?_ (by decide) (by decide)))) | (rw [if_pos c34] at h1; unfold minD at h1; rw [if_pos c62] at h1; exact h1 _ (((hM.arr 14 rfl _).arr 15 rfl _).arr 1 rfl _) (by repeat (first | exact FrM.rf | refine FrM.up ?_ (by decide) (by decide)))) | (rw [if_pos c34] at h1; unfold minD at h1; rw [if_neg c62] at h1; exact h1 _ (((hM.arr 14 rfl _).arr 15 rfl _).arr 1 rfl _) (by repeat (first | exact FrM.rf | refine FrM.up ?_ (by decide) (by decide))))
def sumI (M : MS) (p : Nat) : Nat → Int64
  | 0 => 0
  | n + 1 => sumI M p n + (intM M p n).toInt64
def vlM (M : MS) (p k : Nat) : Int64 := (cstM M p).toInt64 * (intM M p k).toInt64
def prt0 (M : MS) (p l : Nat) (b : Int32) (k : Nat) : Int32 := if sumI M p (l + 1) = 0 then (if nI k = b then cstM M p else 0) else (vlM M p k / sumI M p (l + 1)).toInt32
def cut0 (M : MS) (p l k : Nat) : Int64 := if sumI M p (l + 1) = 0 then 0 else vlM M p k - vlM M p k / sumI M p (l + 1) * sumI M p (l + 1)
def prF (M : MS) (p l : Nat) (b : Int32) (P : Nat → Int32) : Nat → Nat → Int32
  | 0 => P
  | k + 1 => upd (prF M p l b P k) k (prt0 M p l b k)
def ctF (M : MS) (p l : Nat) (C : Nat → Int64) : Nat → Nat → Int64
  | 0 => C
  | k + 1 => vp_updL (ctF M p l C k) k (cut0 M p l k)
def rsF (c : Int32) (P : Nat → Int32) : Nat → Int32
  | 0 => c
  | k + 1 => rsF c P k - P k
def bst (C : Nat → Int64) : Nat → Nat
  | 0 => 0
  | k + 1 => if C (bst C k) < C (k + 1) then k + 1 else bst C k
theorem bst_le (C : Nat → Int64) : ∀ n, bst C n ≤ n
  | 0 => Nat.le_refl _
  | k + 1 => by
    unfold bst
    by_cases h : C (bst C k) < C (k + 1)
    · rw [if_pos h]; exact Nat.le_refl _
    · rw [if_neg h]; have := bst_le C k; omega
def giv (l : Nat) : Nat → (Nat → Int32) → (Nat → Int64) → Nat → Int32
  | 0, P, _ => P
  | r + 1, P, C => giv l r (upd P (bst C l) (P (bst C l) + 1)) (vp_updL C (bst C l) (-1))
def parP (M : MS) (p l : Nat) (b : Int32) (P : Nat → Int32) (C : Nat → Int64) : Nat → Int32 := giv l (hN (rsF (cstM M p) (prF M p l b P (l + 1)) (l + 1))) (prF M p l b P (l + 1)) (ctF M p l C (l + 1))
theorem c_md_parted {p l : Nat} (hM : MH G M S C) (hw : WF M np) (hp : p < np) (hl : M 7 p = nI l) (hl3 : l ≤ 3) (h0 : bldM M p (l + 1) = -1 → Q (some (.int (-1))) G)
    (h1 : ∀ b, b ≤ l → bldM M p (l + 1) = nI b → ∀ G' S' C', MH G' M S' C' → S' 25 = parP M p l (nI b) (S 25) C → FrM G G' → Q (some (.int (nI b))) G') : A 4 M_md_parted 0 [some (.ref 100), some (.int (nI p)), none, none, none, none, none, none, none] [] G kc ks Q := by
  have hw' := hw
  obtain ⟨hn, hn2, -⟩ := hw
  have ep : (nI p).toInt = (p : Int) := ixn (by omega)
  refine A.aload_k 0 rfl rfl rfl d_md_parted_0 ?_
  refine A.iload_k 1 rfl rfl d_md_parted_1 ?_
  refine A.callV1 s_md_121 ?_ (Nat.le_of_ble_eq_true rfl) (Nat.le_of_ble_eq_true rfl) (Nat.le_of_ble_eq_true rfl) d_md_parted_2 rfl (c_md_builder hM hw' hp hl hl3 ?_)
  · apply Exists.intro
    exact hM.1
  dsimp only [psh]
  refine A.istore_k 2 rfl (Nat.le_of_ble_eq_true rfl) rfl d_md_parted_5 ?_
  dsimp only [List.set]
  refine A.iload_k 2 rfl rfl d_md_parted_6 ?_
  refine A.iconst (v := -1) rfl d_md_parted_7 ?_
  refine A.icmp_ne 13 (by decide) d_md_parted_8 (fun c8 => ?_) (fun c8 => ?_)
  rotate_left
  · refine A.iconst (v := -1) rfl d_md_parted_11 ?_
    refine A.iret d_md_parted_12 rfl ?_
    exact h0 c8
  skip
  rcases bldM_cases M p (l + 1) with e | ⟨b, hb, e⟩
  · exact absurd e c8
  rw [e] at c8 ⊢
  have h1 := h1 b (by omega) e
  clear h0 e c8
  -- the last loop: one more to the one of whom most was cut off
  have loop4 : ∀ (r : Nat) (G' : AHp) (S' : MS) (C' : Nat → Int64) (v6 v7 : Option Value), r < 2147483648 → MH G' M S' C' → giv l r (S' 25) C' = parP M p l (nI b) (S 25) C → FrM G G' → A 4 M_md_parted 176 [some (.ref 100), some (.int (nI p)), some (.int (nI b)), none, none, some (.int (nI r)), v6, v7, none] [] G' kc ks Q := by
    intro r
    induction r with
    | zero =>
      intro G' S' C' v6 v7 hr hM' hg hF
      refine A.iload rfl d_md_parted_176 ?_
      refine A.if_le 253 (by decide) d_md_parted_178 (fun c178 => ?_) (fun c178 => ?_)
      · refine A.iload_k 2 rfl rfl d_md_parted_253 ?_
        refine A.iret d_md_parted_254 rfl ?_
        exact h1 G' S' C' hM' hg hF
      · exact absurd (by decide) c178
    | succ r ih =>
      intro G' S' C' v6 v7 hr hM' hg hF
      have inner : ∀ (k i : Nat), i ≤ l → l < i + k → A 4 M_md_parted 187 [some (.ref 100), some (.int (nI p)), some (.int (nI b)), none, none, some (.int (nI (r + 1))), some (.int (nI (bst C' i))), some (.int (nI (i + 1))), none] [] G' kc ks Q := by
        intro k
        induction k with
        | zero => intro i y1 y2; omega
        | succ k ih2 =>
          intro i y1 y2
          have hb3 := bst_le C' i
          refine A.iload rfl d_md_parted_187 ?_
          refine A.aload_k 0 rfl rfl rfl d_md_parted_189 ?_
          apply A.getfield f_md_25 d_md_parted_190
          · repeat first | exact up_s | refine up_e (by decide) ?_ | exact hM'.1 | exact hM'.2.1 _ rfl | exact hM'.2.2.1 _ rfl | exact hM'.2.2.2
          · rfl
          refine A.iload_k 1 rfl rfl d_md_parted_193 ?_
          apply A.iaload (j := p) d_md_parted_194
          · repeat first | exact up_s | refine up_e (by decide) ?_ | exact hM'.1 | exact hM'.2.1 _ rfl | exact hM'.2.2.1 _ rfl | exact hM'.2.2.2
          · exact ep
          · show p < 24; omega
          rw [hl]
          refine A.icmp_gt 226 (by decide) d_md_parted_195 (fun c195 => ?_) (fun c195 => ?_)
          · have y3 : i = l := by
              have := (nI_ltI (by omega) (by omega)).mp c195
              omega
            subst y3
            refine A.aload_k 0 rfl rfl rfl d_md_parted_226 ?_
            apply A.getfield f_md_68 d_md_parted_227
            · repeat first | exact up_s | refine up_e (by decide) ?_ | exact hM'.1 | exact hM'.2.1 _ rfl | exact hM'.2.2.1 _ rfl | exact hM'.2.2.2
            · rfl
            refine A.iload rfl d_md_parted_230 ?_
            refine A.dup2 rfl rfl d_md_parted_232 ?_
            apply A.iaload (j := bst C' i) d_md_parted_233
            · repeat first | exact up_s | refine up_e (by decide) ?_ | exact hM'.1 | exact hM'.2.1 _ rfl | exact hM'.2.2.1 _ rfl | exact hM'.2.2.2
            · exact ixn (by omega)
            · show bst C' i < 4; omega
            refine A.iconst (v := 1) rfl d_md_parted_234 ?_
            refine A.iadd d_md_parted_235 ?_
            apply A.iastore (j := bst C' i) d_md_parted_236
            · repeat first | exact up_s | refine up_e (by decide) ?_ | exact hM'.1 | exact hM'.2.1 _ rfl | exact hM'.2.2.1 _ rfl | exact hM'.2.2.2
            · first | decide | omega
            · exact ixn (by omega)
            · show bst C' i < 4; omega
            refine A.aload_k 0 rfl rfl rfl d_md_parted_237 ?_
            apply A.getfield f_md_71 d_md_parted_238
            · repeat first | exact up_s | refine up_e (by decide) ?_ | exact hM'.1 | exact hM'.2.1 _ rfl | exact hM'.2.2.1 _ rfl | exact hM'.2.2.2
            · rfl
            refine A.iload rfl d_md_parted_241 ?_
            refine A.ldc2 d_md_parted_243 k_md_124 ?_
            apply A.lastore (j := bst C' i) d_md_parted_246
            · repeat first | exact up_s | refine up_e (by decide) ?_ | exact hM'.1 | exact hM'.2.1 _ rfl | exact hM'.2.2.1 _ rfl | exact hM'.2.2.2
            · exact ixn (by omega)
            · omega
            refine A.iincm (n := 5) rfl (Nat.le_of_ble_eq_true rfl) d_md_parted_247 ?_
            dsimp only [List.set]
            refine A.goto 176 (by decide) d_md_parted_250 ?_
            rw [nI_pred]
            exact ih _ _ _ _ _ (by omega) ((hM'.scr 25 rfl _).cut _) hg ((hF.up (by decide) (by decide)).up (by decide) (by decide))
          · have y3 : i < l := Nat.lt_of_not_le (fun z => c195 (nI_lt (by omega) (by omega)))
            refine A.aload_k 0 rfl rfl rfl d_md_parted_198 ?_
            apply A.getfield f_md_71 d_md_parted_199
            · repeat first | exact up_s | refine up_e (by decide) ?_ | exact hM'.1 | exact hM'.2.1 _ rfl | exact hM'.2.2.1 _ rfl | exact hM'.2.2.2
            · rfl
            refine A.iload rfl d_md_parted_202 ?_
            apply A.laload (j := i + 1) d_md_parted_204
            · repeat first | exact up_s | refine up_e (by decide) ?_ | exact hM'.1 | exact hM'.2.1 _ rfl | exact hM'.2.2.1 _ rfl | exact hM'.2.2.2
            · exact ixn (by omega)
            · omega
            refine A.aload_k 0 rfl rfl rfl d_md_parted_205 ?_
            apply A.getfield f_md_71 d_md_parted_206
            · repeat first | exact up_s | refine up_e (by decide) ?_ | exact hM'.1 | exact hM'.2.1 _ rfl | exact hM'.2.2.1 _ rfl | exact hM'.2.2.2
            · rfl
            refine A.iload rfl d_md_parted_209 ?_
            apply A.laload (j := bst C' i) d_md_parted_211
            · repeat first | exact up_s | refine up_e (by decide) ?_ | exact hM'.1 | exact hM'.2.1 _ rfl | exact hM'.2.2.1 _ rfl | exact hM'.2.2.2
            · exact ixn (by omega)
            · omega
            refine A.lcmp d_md_parted_212 ?_
            refine A.if_le 220 (by decide) d_md_parted_213 (fun c213 => ?_) (fun c213 => ?_)
            · refine A.iincp (n := 7) rfl (Nat.le_of_ble_eq_true rfl) d_md_parted_220 ?_
              dsimp only [List.set]
              refine A.goto 187 (by decide) d_md_parted_223 ?_
              rw [nI_1]
              have ih2 := ih2 (i + 1) (by omega) (by omega)
              unfold bst at ih2
              first | (rw [if_neg (lgcle.mp c213)] at ih2; exact ih2) | (rw [if_pos (Decidable.not_not.mp (fun z => c213 (lgcle.mpr z)))] at ih2; exact ih2)
            · refine A.iload rfl d_md_parted_216 ?_
              refine A.istore (Nat.le_of_ble_eq_true rfl) rfl d_md_parted_218 ?_
              dsimp only [List.set]
              refine A.iincp (n := 7) rfl (Nat.le_of_ble_eq_true rfl) d_md_parted_220 ?_
              dsimp only [List.set]
              refine A.goto 187 (by decide) d_md_parted_223 ?_
              rw [nI_1]
              have ih2 := ih2 (i + 1) (by omega) (by omega)
              unfold bst at ih2
              first | (rw [if_neg (lgcle.mp c213)] at ih2; exact ih2) | (rw [if_pos (Decidable.not_not.mp (fun z => c213 (lgcle.mpr z)))] at ih2; exact ih2)
      refine A.iload rfl d_md_parted_176 ?_
      refine A.if_le 253 (by decide) d_md_parted_178 (fun c178 => ?_) (fun c178 => ?_)
      · exact absurd c178 (nI_nle (by omega) (by omega))
      refine A.iconst (v := 0) rfl d_md_parted_181 ?_
      refine A.istore (Nat.le_of_ble_eq_true rfl) rfl d_md_parted_182 ?_
      dsimp only [List.set]
      refine A.iconst (v := 1) rfl d_md_parted_184 ?_
      refine A.istore (Nat.le_of_ble_eq_true rfl) rfl d_md_parted_185 ?_
      dsimp only [List.set]
      exact inner (l + 1) 0 (by omega) (by omega)
  have loop3 : ∀ (k i : Nat) (G' : AHp) (S' : MS) (C' : Nat → Int64) (v7 : Option Value), MH G' M S' C' → S' 25 = prF M p l (nI b) (S 25) (l + 1) → C' = ctF M p l C (l + 1) → FrM G G' → i ≤ l + 1 → l + 1 < i + k → A 4 M_md_parted 147 [some (.ref 100), some (.int (nI p)), some (.int (nI b)), none, none, some (.int (rsF (cstM M p) (prF M p l (nI b) (S 25) (l + 1)) i)), some (.int (nI i)), v7, none] [] G' kc ks Q := by
    intro k
    induction k with
    | zero => intro i G' S' C' v7 _ _ _ _ y1 y2; omega
    | succ k ih =>
      intro i G' S' C' v7 hM' hS hC hF y1 y2
      refine A.iload rfl d_md_parted_147 ?_
      refine A.aload_k 0 rfl rfl rfl d_md_parted_149 ?_
      apply A.getfield f_md_25 d_md_parted_150
      · first | exact hM'.1 | exact hM'.2.1 _ rfl | exact hM'.2.2.1 _ rfl
      · rfl
      refine A.iload_k 1 rfl rfl d_md_parted_153 ?_
      apply A.iaload (j := p) d_md_parted_154
      · first | exact hM'.1 | exact hM'.2.1 _ rfl | exact hM'.2.2.1 _ rfl
      · exact ep
      · show p < 24; omega
      rw [hl]
      refine A.icmp_gt 176 (by decide) d_md_parted_155 (fun c155 => ?_) (fun c155 => ?_)
      · have y3 : i = l + 1 := by
          have := (nI_ltI (by omega) (by omega)).mp c155
          omega
        subst y3
        generalize hr : rsF (cstM M p) (prF M p l (nI b) (S 25) (l + 1)) (l + 1) = rs
        by_cases hrs : rs ≤ 0
        · refine A.iload rfl d_md_parted_176 ?_
          refine A.if_le 253 (by decide) d_md_parted_178 (fun _ => ?_) (fun z => absurd hrs z)
          refine A.iload_k 2 rfl rfl d_md_parted_253 ?_
          refine A.iret d_md_parted_254 rfl ?_
          exact h1 G' S' C' hM' (by unfold parP; rw [hr, hN_le hrs, hS]; rfl) hF
        · have e1 : nI (hN rs) = rs := nI_hN (Int32.le_of_lt (Int32.not_le.mp hrs))
          rw [← e1]
          exact loop4 (hN rs) G' S' C' _ _ (hN_lt rs) hM' (by unfold parP; rw [hr, hS, hC]) hF
      · have y3 : i ≤ l := Nat.le_of_not_lt (fun z => c155 (nI_lt z (by omega)))
        refine A.iload rfl d_md_parted_158 ?_
        refine A.aload_k 0 rfl rfl rfl d_md_parted_160 ?_
        apply A.getfield f_md_68 d_md_parted_161
        · first | exact hM'.1 | exact hM'.2.1 _ rfl | exact hM'.2.2.1 _ rfl
        · rfl
        refine A.iload rfl d_md_parted_164 ?_
        apply A.iaload (j := i) d_md_parted_166
        · first | exact hM'.1 | exact hM'.2.1 _ rfl | exact hM'.2.2.1 _ rfl
        · exact ixn (by omega)
        · show i < 4; omega
        refine A.isub d_md_parted_167 ?_
        refine A.istore (Nat.le_of_ble_eq_true rfl) rfl d_md_parted_168 ?_
        dsimp only [List.set]
        refine A.iincp (n := 6) rfl (Nat.le_of_ble_eq_true rfl) d_md_parted_170 ?_
        dsimp only [List.set]
        refine A.goto 147 (by decide) d_md_parted_173 ?_
        rw [nI_1, hS]
        exact ih (i + 1) G' S' C' v7 hM' hS hC hF (by omega) (by omega)
  have loop2 : ∀ (k i : Nat) (G' : AHp) (S' : MS) (C' : Nat → Int64) (v7 : Option Value), MH G' M S' C' → S' 25 = prF M p l (nI b) (S 25) i → C' = ctF M p l C i → FrM G G' → i ≤ l + 1 → l + 1 < i + k → A 4 M_md_parted 56 [some (.ref 100), some (.int (nI p)), some (.int (nI b)), some (.long (sumI M p (l + 1))), none, some (.int (cstM M p)), some (.int (nI i)), v7, none] [] G' kc ks Q := by
    intro k
    induction k with
    | zero => intro i G' S' C' v7 _ _ _ _ y1 y2; omega
    | succ k ih =>
      intro i G' S' C' v7 hM' hS hC hF y1 y2
      have J : ∀ val : Int32, i ≤ l → val = prt0 M p l (nI b) i → A 4 M_md_parted 116 [some (.ref 100), some (.int (nI p)), some (.int (nI b)), some (.long (sumI M p (l + 1))), none, some (.int (cstM M p)), some (.int (nI i)), some (.long (vlM M p i)), none] [.int val, .int (nI i), .ref 225] G' kc ks Q := by
        intro val y3 hval
        apply A.iastore (j := i) d_md_parted_116
        · repeat first | exact up_s | refine up_e (by decide) ?_ | exact hM'.1 | exact hM'.2.1 _ rfl | exact hM'.2.2.1 _ rfl | exact hM'.2.2.2
        · first | decide | omega
        · exact ixn (by omega)
        · first | (show i < 4; omega) | omega
        refine A.aload_k 0 rfl rfl rfl d_md_parted_117 ?_
        apply A.getfield f_md_71 d_md_parted_118
        · repeat first | exact up_s | refine up_e (by decide) ?_ | exact hM'.1 | exact hM'.2.1 _ rfl | exact hM'.2.2.1 _ rfl | exact hM'.2.2.2
        · rfl
        refine A.iload rfl d_md_parted_121 ?_
        refine A.lload_k 3 rfl rfl d_md_parted_123 ?_
        refine A.lconst (v := 0) rfl d_md_parted_124 ?_
        refine A.lcmp d_md_parted_125 ?_
        refine A.if_ne 133 (by decide) d_md_parted_126 (fun c126 => ?_) (fun c126 => ?_)
        · refine A.lload rfl d_md_parted_133 ?_
          refine A.lload_k 3 rfl rfl d_md_parted_135 ?_
          refine A.lrem (fun z => c126 (lgc0.mpr z)) d_md_parted_136 ?_
          apply A.lastore (j := i) d_md_parted_137
          · repeat first | exact up_s | refine up_e (by decide) ?_ | exact hM'.1 | exact hM'.2.1 _ rfl | exact hM'.2.2.1 _ rfl | exact hM'.2.2.2
          · exact ixn (by omega)
          · first | (show i < 4; omega) | omega
          refine A.iincp (n := 6) rfl (Nat.le_of_ble_eq_true rfl) d_md_parted_138 ?_
          dsimp only [List.set]
          refine A.goto 56 (by decide) d_md_parted_141 ?_
          rw [nI_1]
          refine ih (i + 1) _ _ _ _ ((hM'.scr 25 rfl _).cut _) (by show upd (S' 25) i val = _; rw [hS, hval]; rfl) ?_ ((hF.up (by decide) (by decide)).up (by decide) (by decide)) (by omega) (by omega)
          show vp_updL C' i _ = vp_updL (ctF M p l C i) i (cut0 M p l i)
          rw [hC]
          unfold cut0
          first | rw [if_pos (lgc0.mp c126)] | rw [if_neg (fun z => c126 (lgc0.mpr z))]
        · refine A.lconst (v := 0) rfl d_md_parted_129 ?_
          refine A.goto 137 (by decide) d_md_parted_130 ?_
          apply A.lastore (j := i) d_md_parted_137
          · repeat first | exact up_s | refine up_e (by decide) ?_ | exact hM'.1 | exact hM'.2.1 _ rfl | exact hM'.2.2.1 _ rfl | exact hM'.2.2.2
          · exact ixn (by omega)
          · first | (show i < 4; omega) | omega
          refine A.iincp (n := 6) rfl (Nat.le_of_ble_eq_true rfl) d_md_parted_138 ?_
          dsimp only [List.set]
          refine A.goto 56 (by decide) d_md_parted_141 ?_
          rw [nI_1]
          refine ih (i + 1) _ _ _ _ ((hM'.scr 25 rfl _).cut _) (by show upd (S' 25) i val = _; rw [hS, hval]; rfl) ?_ ((hF.up (by decide) (by decide)).up (by decide) (by decide)) (by omega) (by omega)
          show vp_updL C' i _ = vp_updL (ctF M p l C i) i (cut0 M p l i)
          rw [hC]
          unfold cut0
          first | rw [if_pos (lgc0.mp c126)] | rw [if_neg (fun z => c126 (lgc0.mpr z))]
      refine A.iload rfl d_md_parted_56 ?_
      refine A.aload_k 0 rfl rfl rfl d_md_parted_58 ?_
      apply A.getfield f_md_25 d_md_parted_59
      · first | exact hM'.1 | exact hM'.2.1 _ rfl | exact hM'.2.2.1 _ rfl
      · rfl
      refine A.iload_k 1 rfl rfl d_md_parted_62 ?_
      apply A.iaload (j := p) d_md_parted_63
      · first | exact hM'.1 | exact hM'.2.1 _ rfl | exact hM'.2.2.1 _ rfl
      · exact ep
      · show p < 24; omega
      rw [hl]
      refine A.icmp_gt 144 (by decide) d_md_parted_64 (fun c64 => ?_) (fun c64 => ?_)
      · refine A.iconst (v := 0) rfl d_md_parted_144 ?_
        refine A.istore (Nat.le_of_ble_eq_true rfl) rfl d_md_parted_145 ?_
        dsimp only [List.set]
        have y3 : i = l + 1 := by
          have := (nI_ltI (by omega) (by omega)).mp c64
          omega
        subst y3
        refine A.dropat 3 ?_
        dsimp only [List.set]
        exact loop3 (l + 2) 0 G' S' C' v7 hM' hS hC hF (by omega) (by omega)
      · have y3 : i ≤ l := Nat.le_of_not_lt (fun z => c64 (nI_lt z (by omega)))
        refine A.aload_k 0 rfl rfl rfl d_md_parted_67 ?_
        refine A.iload_k 1 rfl rfl d_md_parted_68 ?_
        refine A.callV1 s_md_118 ?_ (Nat.le_of_ble_eq_true rfl) (Nat.le_of_ble_eq_true rfl) (Nat.le_of_ble_eq_true rfl) d_md_parted_69 rfl (c_md_costOf hM' (by omega) ?_)
        · apply Exists.intro
          first | exact hM'.1 | exact hM'.2.1 _ rfl | exact hM'.2.2.1 _ rfl
        dsimp only [psh]
        refine A.i2l d_md_parted_72 ?_
        refine A.aload_k 0 rfl rfl rfl d_md_parted_73 ?_
        refine A.iload_k 1 rfl rfl d_md_parted_74 ?_
        refine A.iload rfl d_md_parted_75 ?_
        refine A.callV2 s_md_114 ?_ (Nat.le_of_ble_eq_true rfl) (Nat.le_of_ble_eq_true rfl) (Nat.le_of_ble_eq_true rfl) d_md_parted_77 rfl (c_md_interestOf hM' hn hn2 hp hl hl3 (by omega) ?_)
        · apply Exists.intro
          first | exact hM'.1 | exact hM'.2.1 _ rfl | exact hM'.2.2.1 _ rfl
        dsimp only [psh]
        refine A.i2l d_md_parted_80 ?_
        refine A.lmul d_md_parted_81 ?_
        refine A.lstore (Nat.le_of_ble_eq_true rfl) rfl d_md_parted_82 ?_
        dsimp only [List.set]
        refine A.aload_k 0 rfl rfl rfl d_md_parted_84 ?_
        apply A.getfield f_md_68 d_md_parted_85
        · first | exact hM'.1 | exact hM'.2.1 _ rfl | exact hM'.2.2.1 _ rfl
        · rfl
        refine A.iload rfl d_md_parted_88 ?_
        refine A.lload_k 3 rfl rfl d_md_parted_90 ?_
        refine A.lconst (v := 0) rfl d_md_parted_91 ?_
        refine A.lcmp d_md_parted_92 ?_
        refine A.if_ne 111 (by decide) d_md_parted_93 (fun c93 => ?_) (fun c93 => ?_)
        · refine A.lload rfl d_md_parted_111 ?_
          refine A.lload_k 3 rfl rfl d_md_parted_113 ?_
          refine A.ldiv (fun z => c93 (lgc0.mpr z)) d_md_parted_114 ?_
          refine A.l2i d_md_parted_115 ?_
          refine J _ y3 ?_
          unfold prt0
          first | rw [if_neg (fun z => c93 (lgc0.mpr z))]; rfl | rw [if_pos (lgc0.mp c93), if_pos c99] | rw [if_pos (lgc0.mp c93), if_neg c99]
        · refine A.iload rfl d_md_parted_96 ?_
          refine A.iload_k 2 rfl rfl d_md_parted_98 ?_
          refine A.icmp_ne 107 (by decide) d_md_parted_99 (fun c99 => ?_) (fun c99 => ?_)
          · refine A.iconst (v := 0) rfl d_md_parted_107 ?_
            refine A.goto 116 (by decide) d_md_parted_108 ?_
            refine J _ y3 ?_
            unfold prt0
            first | rw [if_neg (fun z => c93 (lgc0.mpr z))]; rfl | rw [if_pos (lgc0.mp c93), if_pos c99] | rw [if_pos (lgc0.mp c93), if_neg c99]
          · refine A.iload rfl d_md_parted_102 ?_
            refine A.goto 116 (by decide) d_md_parted_104 ?_
            refine J _ y3 ?_
            unfold prt0
            first | rw [if_neg (fun z => c93 (lgc0.mpr z))]; rfl | rw [if_pos (lgc0.mp c93), if_pos c99] | rw [if_pos (lgc0.mp c93), if_neg c99]
  have loop1 : ∀ (k i : Nat), i ≤ l + 1 → l + 1 < i + k → A 4 M_md_parted 25 [some (.ref 100), some (.int (nI p)), some (.int (nI b)), some (.long (sumI M p i)), none, some (.int (cstM M p)), some (.int (nI i)), none, none] [] G kc ks Q := by
    intro k
    induction k with
    | zero => intro i y1 y2; omega
    | succ k ih =>
      intro i y1 y2
      refine A.iload rfl d_md_parted_25 ?_
      refine A.aload_k 0 rfl rfl rfl d_md_parted_27 ?_
      apply A.getfield f_md_25 d_md_parted_28
      · first | exact hM.1 | exact hM.2.1 _ rfl
      · rfl
      refine A.iload_k 1 rfl rfl d_md_parted_31 ?_
      apply A.iaload (j := p) d_md_parted_32
      · first | exact hM.1 | exact hM.2.1 _ rfl
      · exact ep
      · show p < 24; omega
      rw [hl]
      refine A.icmp_gt 53 (by decide) d_md_parted_33 (fun c33 => ?_) (fun c33 => ?_)
      · refine A.iconst (v := 0) rfl d_md_parted_53 ?_
        refine A.istore (Nat.le_of_ble_eq_true rfl) rfl d_md_parted_54 ?_
        dsimp only [List.set]
        have y3 : i = l + 1 := by
          have := (nI_ltI (by omega) (by omega)).mp c33
          omega
        subst y3
        exact loop2 (l + 2) 0 G S C none hM rfl rfl FrM.rf (by omega) (by omega)
      · have y3 : i ≤ l := Nat.le_of_not_lt (fun z => c33 (nI_lt z (by omega)))
        refine A.lload_k 3 rfl rfl d_md_parted_36 ?_
        refine A.aload_k 0 rfl rfl rfl d_md_parted_37 ?_
        refine A.iload_k 1 rfl rfl d_md_parted_38 ?_
        refine A.iload rfl d_md_parted_39 ?_
        refine A.callV2 s_md_114 ?_ (Nat.le_of_ble_eq_true rfl) (Nat.le_of_ble_eq_true rfl) (Nat.le_of_ble_eq_true rfl) d_md_parted_41 rfl (c_md_interestOf hM hn hn2 hp hl hl3 (by omega) ?_)
        · apply Exists.intro
          first | exact hM.1 | exact hM.2.1 _ rfl
        dsimp only [psh]
        refine A.i2l d_md_parted_44 ?_
        refine A.ladd d_md_parted_45 ?_
        refine A.lstore_k 3 rfl (Nat.le_of_ble_eq_true rfl) rfl d_md_parted_46 ?_
        dsimp only [List.set]
        refine A.iincp (n := 6) rfl (Nat.le_of_ble_eq_true rfl) d_md_parted_47 ?_
        dsimp only [List.set]
        refine A.goto 25 (by decide) d_md_parted_50 ?_
        rw [nI_1]
        exact ih (i + 1) (by omega) (by omega)
  refine A.lconst (v := 0) rfl d_md_parted_13 ?_
  refine A.lstore_k 3 rfl (Nat.le_of_ble_eq_true rfl) rfl d_md_parted_14 ?_
  dsimp only [List.set]
  refine A.aload_k 0 rfl rfl rfl d_md_parted_15 ?_
  refine A.iload_k 1 rfl rfl d_md_parted_16 ?_
  refine A.callV1 s_md_118 ?_ (Nat.le_of_ble_eq_true rfl) (Nat.le_of_ble_eq_true rfl) (Nat.le_of_ble_eq_true rfl) d_md_parted_17 rfl (c_md_costOf hM (by omega) ?_)
  · apply Exists.intro
    exact hM.1
  dsimp only [psh]
  refine A.istore (Nat.le_of_ble_eq_true rfl) rfl d_md_parted_20 ?_
  dsimp only [List.set]
  refine A.iconst (v := 0) rfl d_md_parted_22 ?_
  refine A.istore (Nat.le_of_ble_eq_true rfl) rfl d_md_parted_23 ?_
  dsimp only [List.set]
  exact loop1 (l + 2) 0 (by omega) (by omega)
end MODEL3
