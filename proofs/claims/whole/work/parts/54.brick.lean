/-! the component: the plan of bricks, its cells -/
section BRICK
variable {M S : MS} {G : AHp} {kc ks np : Nat} {Q : Option Value → AHp → Prop}
/-- how many bricks have come by the year a plot is due -/
def rmI (M : MS) (b : Int32) (p : Nat) : Int32 := b * (dueM M p - M 0 0 + 1)
def shf (f : Nat → Int32) (at_ n k : Nat) : Int32 := if at_ < k ∧ k ≤ n then f (k - 1) else f k
theorem shf_n (f : Nat → Int32) (n : Nat) : shf f n n = f := by
  funext k
  exact if_neg (by omega)
theorem shf_s (f : Nat → Int32) {a n : Nat} (h : a + 1 ≤ n) : upd (shf f (a + 1) n) (a + 1) (shf f (a + 1) n a) = shf f a n := by
  funext k
  unfold shf
  by_cases e : k = a + 1
  · subst e; rw [upd_eq, if_neg (by omega), if_pos (by omega)]; rfl
  · rw [upd_ne e]
    by_cases c : a + 1 < k ∧ k ≤ n
    · rw [if_pos c, if_pos (by omega)]
    · rw [if_neg c, if_neg (by omega)]
/-- the plots of the plan, in their order -/
def BrZ (G : AHp) (M : MS) (b : Int32) (Z : List Nat) : Prop := ∃ (fn fd fw fr ft : Nat → Int32) (x y : Int32), G 25 = some (oB 2 [.ref 30, .ref 31, .ref 32, .ref 33, .ref 34, .int (nI Z.length), .int x, .int y]) ∧ G 30 = some (aI 12 fn) ∧ G 31 = some (aI 12 fd) ∧ G 32 = some (aI 12 fw) ∧ G 33 = some (aI 12 fr) ∧ G 34 = some (aI 13 ft) ∧ ∀ k, k < Z.length → fn k = nI (Z.getD k 0) ∧ fd k = M 4 (Z.getD k 0) + M 5 (Z.getD k 0) ∧ fw k = wthM M (Z.getD k 0) ∧ fr k = rmI M b (Z.getD k 0)
theorem ins_at (Z : List Nat) (p a k : Nat) (ha : a ≤ Z.length) : (Z.take a ++ p :: Z.drop a).getD k 0 = if k < a then Z.getD k 0 else if k = a then p else Z.getD (k - 1) 0 := by
  have hl : (Z.take a).length = a := by rw [List.length_take]; omega
  rw [List.getD_eq_getElem?_getD]
  by_cases c : k < a
  · rw [if_pos c, List.getElem?_append_left (by omega), List.getElem?_take, if_pos c, ← List.getD_eq_getElem?_getD]
  · rw [if_neg c, List.getElem?_append_right (by omega), hl]
    by_cases d : k = a
    · subst d; rw [if_pos rfl, Nat.sub_self]; rfl
    · rw [if_neg d, show k - a = (k - a - 1) + 1 by omega, List.getElem?_cons_succ, List.getElem?_drop, show a + (k - a - 1) = k - 1 by omega, ← List.getD_eq_getElem?_getD]
theorem up4 {a b c d a' b' c' d' : ACell} : up (up (up (up (up (up (up (up G 30 a) 31 b) 32 c) 33 d) 30 a') 31 b') 32 c') 33 d' = up (up (up (up G 30 a') 31 b') 32 c') 33 d' := by
  funext q
  by_cases e3 : q = 33
  · subst e3; rw [up_s, up_s]
  rw [up_n e3, up_n e3]
  by_cases e2 : q = 32
  · subst e2; rw [up_s, up_s]
  rw [up_n e2, up_n e2]
  by_cases e1 : q = 31
  · subst e1; rw [up_s, up_s]
  rw [up_n e1, up_n e1]
  by_cases e0 : q = 30
  · subst e0; rw [up_s, up_s]
  rw [up_n e0, up_n e0, up_n e3, up_n e2, up_n e1, up_n e0]
theorem c_bp_add {p : Nat} {b : Int32} {Z : List Nat} {fs : List Value} (hZ : BrZ G M b Z) (hp : p < 24) (h12 : Z.length ≤ 12) (hpl : G (1000 + 16 * p) = some (oB 5 (.int (M 4 p) :: .int (M 5 p) :: fs))) (h0 : Z.length = 12 → Q (some (.int 0)) G)
    (h1 : Z.length < 12 → ∀ a G', a ≤ Z.length → (0 < a → rmI M b (Z.getD (a - 1) 0) ≤ rmI M b p) → (∀ k, a ≤ k → k < Z.length → rmI M b p < rmI M b (Z.getD k 0)) → BrZ G' M b (Z.take a ++ p :: Z.drop a) → (∀ q, (q < 25 ∨ 33 < q ∨ (25 < q ∧ q < 30)) → G' q = G q) → Q (some (.int 1)) G') : A 1 M_bp_add 0 [some (.ref 25), some (.int (nI p)), some (.ref (1000 + 16 * p)), some (.int (rmI M b p)), none] [] G kc ks Q := by
  obtain ⟨fn, fd, fw, fr, ft, x, y, z25, z30, z31, z32, z33, z34, zk⟩ := hZ
  have loop : Z.length < 12 → ∀ (a : Nat), a ≤ Z.length → (∀ k, a ≤ k → k < Z.length → rmI M b p < rmI M b (Z.getD k 0)) → A 1 M_bp_add 17 [some (.ref 25), some (.int (nI p)), some (.ref (1000 + 16 * p)), some (.int (rmI M b p)), some (.int (nI a))] [] (up (up (up (up G 30 (aI 12 (shf fn a Z.length))) 31 (aI 12 (shf fd a Z.length))) 32 (aI 12 (shf fw a Z.length))) 33 (aI 12 (shf fr a Z.length))) kc ks Q := by
    intro hlt
    have h1 := h1 hlt
    -- the place is found
    have put : ∀ a, a ≤ Z.length → (0 < a → rmI M b (Z.getD (a - 1) 0) ≤ rmI M b p) → (∀ k, a ≤ k → k < Z.length → rmI M b p < rmI M b (Z.getD k 0)) → A 1 M_bp_add 105 [some (.ref 25), some (.int (nI p)), some (.ref (1000 + 16 * p)), some (.int (rmI M b p)), some (.int (nI a))] [] (up (up (up (up G 30 (aI 12 (shf fn a Z.length))) 31 (aI 12 (shf fd a Z.length))) 32 (aI 12 (shf fw a Z.length))) 33 (aI 12 (shf fr a Z.length))) kc ks Q := by
      intro a ha h2 h3
      refine A.aload_k 0 rfl rfl rfl d_bp_add_105 ?_
      apply A.getfield f_bp_9 d_bp_add_106
      · repeat first | assumption | exact up_s | refine up_e (by omega) ?_
      · rfl
      refine A.iload rfl d_bp_add_109 ?_
      refine A.iload_k 1 rfl rfl d_bp_add_111 ?_
      apply A.iastore (j := a) d_bp_add_112
      · repeat first | assumption | exact up_s | refine up_e (by omega) ?_
      · first | decide | omega
      · exact ixn (by omega)
      · omega
      refine A.aload_k 0 rfl rfl rfl d_bp_add_113 ?_
      apply A.getfield f_bp_15 d_bp_add_114
      · repeat first | assumption | exact up_s | refine up_e (by omega) ?_
      · rfl
      refine A.iload rfl d_bp_add_117 ?_
      refine A.aload_k 2 rfl rfl rfl d_bp_add_119 ?_
      apply A.getfield f_bp_37 d_bp_add_120
      · repeat first | assumption | exact up_s | refine up_e (by omega) ?_
      · rfl
      refine A.aload_k 2 rfl rfl rfl d_bp_add_123 ?_
      apply A.getfield f_bp_42 d_bp_add_124
      · repeat first | assumption | exact up_s | refine up_e (by omega) ?_
      · rfl
      refine A.iadd d_bp_add_127 ?_
      apply A.iastore (j := a) d_bp_add_128
      · repeat first | assumption | exact up_s | refine up_e (by omega) ?_
      · first | decide | omega
      · exact ixn (by omega)
      · omega
      refine A.aload_k 0 rfl rfl rfl d_bp_add_129 ?_
      apply A.getfield f_bp_18 d_bp_add_130
      · repeat first | assumption | exact up_s | refine up_e (by omega) ?_
      · rfl
      refine A.iload rfl d_bp_add_133 ?_
      refine A.aload_k 2 rfl rfl rfl d_bp_add_135 ?_
      refine A.callV0 s_bp_45 ?_ (Nat.le_of_ble_eq_true rfl) (Nat.le_of_ble_eq_true rfl) (Nat.le_of_ble_eq_true rfl) d_bp_add_136 rfl (c_pl_yearlyWorth (by repeat first | assumption | exact up_s | refine up_e (by omega) ?_) ?_)
      · apply Exists.intro
        repeat first | assumption | exact up_s | refine up_e (by omega) ?_
      dsimp only [psh]
      apply A.iastore (j := a) d_bp_add_139
      · repeat first | assumption | exact up_s | refine up_e (by omega) ?_
      · first | decide | omega
      · exact ixn (by omega)
      · omega
      refine A.aload_k 0 rfl rfl rfl d_bp_add_140 ?_
      apply A.getfield f_bp_21 d_bp_add_141
      · repeat first | assumption | exact up_s | refine up_e (by omega) ?_
      · rfl
      refine A.iload rfl d_bp_add_144 ?_
      refine A.iload_k 3 rfl rfl d_bp_add_146 ?_
      apply A.iastore (j := a) d_bp_add_147
      · repeat first | assumption | exact up_s | refine up_e (by omega) ?_
      · first | decide | omega
      · exact ixn (by omega)
      · omega
      refine A.aload_k 0 rfl rfl rfl d_bp_add_148 ?_
      refine A.dup rfl d_bp_add_149 ?_
      apply A.getfield f_bp_27 d_bp_add_150
      · repeat first | assumption | exact up_s | refine up_e (by omega) ?_
      · rfl
      refine A.iconst (v := 1) rfl d_bp_add_153 ?_
      refine A.iadd d_bp_add_154 ?_
      apply A.putfield p_bp_27 d_bp_add_155
      · repeat first | assumption | exact up_s | refine up_e (by omega) ?_
      · exact (Nat.le_of_ble_eq_true rfl)
      · rfl
      dsimp only [List.set]
      refine A.iconst (v := 1) rfl d_bp_add_158 ?_
      refine A.zret d_bp_add_159 rfl (Or.inr rfl) ?_
      rw [nI_1]
      refine h1 a _ ha h2 h3 ⟨upd (shf fn a Z.length) a (nI p), upd (shf fd a Z.length) a (M 4 p + M 5 p), upd (shf fw a Z.length) a (wthM M p), upd (shf fr a Z.length) a (rmI M b p), ft, x, y, ?_, ?_, ?_, ?_, ?_, ?_, fun k hk => ?_⟩ (fun q hq => ?_)
      · rw [List.length_append, List.length_cons, List.length_take, List.length_drop, show min a Z.length + (Z.length - a + 1) = Z.length + 1 by omega]
        exact up_s
      · repeat first | exact up_s | refine up_e (by decide) ?_
      · repeat first | exact up_s | refine up_e (by decide) ?_
      · repeat first | exact up_s | refine up_e (by decide) ?_
      · repeat first | exact up_s | refine up_e (by decide) ?_
      · repeat first | exact z34 | refine up_e (by decide) ?_
      · rw [List.length_append, List.length_cons, List.length_take, List.length_drop] at hk
        rw [ins_at Z p a k ha]
        unfold shf
        by_cases c1 : k < a
        · rw [if_pos c1, upd_ne (by omega), upd_ne (by omega), upd_ne (by omega), upd_ne (by omega), if_neg (by omega), if_neg (by omega), if_neg (by omega), if_neg (by omega)]
          exact zk k (by omega)
        · rw [if_neg c1]
          by_cases c2 : k = a
          · subst c2; rw [if_pos rfl, upd_eq, upd_eq, upd_eq, upd_eq]; exact ⟨rfl, rfl, rfl, rfl⟩
          · rw [if_neg c2, upd_ne c2, upd_ne c2, upd_ne c2, upd_ne c2, if_pos (by omega), if_pos (by omega), if_pos (by omega), if_pos (by omega)]
            exact zk (k - 1) (by omega)
      · repeat first | rfl | refine up_e (by omega) ?_
    intro a
    induction a with
    | zero =>
      intro ha h3
      refine A.iload rfl d_bp_add_17 ?_
      refine A.if_le 105 (by decide) d_bp_add_19 (fun c19 => ?_) (fun c19 => ?_)
      · exact put 0 (by omega) (fun z => absurd z (by omega)) h3
      · exact absurd (by decide) c19
    | succ a ih =>
      intro ha h3
      have ek := zk a (by omega)
      have er : shf fr (a + 1) Z.length a = rmI M b (Z.getD a 0) := by unfold shf; rw [if_neg (by omega)]; exact ek.2.2.2
      refine A.iload rfl d_bp_add_17 ?_
      refine A.if_le 105 (by decide) d_bp_add_19 (fun c19 => ?_) (fun c19 => ?_)
      · exact absurd c19 (nI_nle (by omega) (by omega))
      refine A.aload_k 0 rfl rfl rfl d_bp_add_22 ?_
      apply A.getfield f_bp_21 d_bp_add_23
      · repeat first | assumption | exact up_s | refine up_e (by omega) ?_
      · rfl
      refine A.iload rfl d_bp_add_26 ?_
      refine A.iconst (v := 1) rfl d_bp_add_28 ?_
      refine A.isub d_bp_add_29 ?_
      rw [nI_pred]
      apply A.iaload (j := a) d_bp_add_30
      · repeat first | assumption | exact up_s | refine up_e (by omega) ?_
      · exact ixn (by omega)
      · omega
      rw [er]
      refine A.iload_k 3 rfl rfl d_bp_add_31 ?_
      refine A.icmp_le 105 (by decide) d_bp_add_32 (fun c32 => ?_) (fun c32 => ?_)
      · exact put (a + 1) ha (fun _ => c32) h3
      · refine A.aload_k 0 rfl rfl rfl d_bp_add_35 ?_
        apply A.getfield f_bp_9 d_bp_add_36
        · repeat first | assumption | exact up_s | refine up_e (by omega) ?_
        · rfl
        refine A.iload rfl d_bp_add_39 ?_
        refine A.aload_k 0 rfl rfl rfl d_bp_add_41 ?_
        apply A.getfield f_bp_9 d_bp_add_42
        · repeat first | assumption | exact up_s | refine up_e (by omega) ?_
        · rfl
        refine A.iload rfl d_bp_add_45 ?_
        refine A.iconst (v := 1) rfl d_bp_add_47 ?_
        refine A.isub d_bp_add_48 ?_
        rw [nI_pred]
        apply A.iaload (j := a) d_bp_add_49
        · repeat first | assumption | exact up_s | refine up_e (by omega) ?_
        · exact ixn (by omega)
        · omega
        apply A.iastore (j := a + 1) d_bp_add_50
        · repeat first | assumption | exact up_s | refine up_e (by omega) ?_
        · first | decide | omega
        · exact ixn (by omega)
        · omega
        refine A.aload_k 0 rfl rfl rfl d_bp_add_51 ?_
        apply A.getfield f_bp_15 d_bp_add_52
        · repeat first | assumption | exact up_s | refine up_e (by omega) ?_
        · rfl
        refine A.iload rfl d_bp_add_55 ?_
        refine A.aload_k 0 rfl rfl rfl d_bp_add_57 ?_
        apply A.getfield f_bp_15 d_bp_add_58
        · repeat first | assumption | exact up_s | refine up_e (by omega) ?_
        · rfl
        refine A.iload rfl d_bp_add_61 ?_
        refine A.iconst (v := 1) rfl d_bp_add_63 ?_
        refine A.isub d_bp_add_64 ?_
        rw [nI_pred]
        apply A.iaload (j := a) d_bp_add_65
        · repeat first | assumption | exact up_s | refine up_e (by omega) ?_
        · exact ixn (by omega)
        · omega
        apply A.iastore (j := a + 1) d_bp_add_66
        · repeat first | assumption | exact up_s | refine up_e (by omega) ?_
        · first | decide | omega
        · exact ixn (by omega)
        · omega
        refine A.aload_k 0 rfl rfl rfl d_bp_add_67 ?_
        apply A.getfield f_bp_18 d_bp_add_68
        · repeat first | assumption | exact up_s | refine up_e (by omega) ?_
        · rfl
        refine A.iload rfl d_bp_add_71 ?_
        refine A.aload_k 0 rfl rfl rfl d_bp_add_73 ?_
        apply A.getfield f_bp_18 d_bp_add_74
        · repeat first | assumption | exact up_s | refine up_e (by omega) ?_
        · rfl
        refine A.iload rfl d_bp_add_77 ?_
        refine A.iconst (v := 1) rfl d_bp_add_79 ?_
        refine A.isub d_bp_add_80 ?_
        rw [nI_pred]
        apply A.iaload (j := a) d_bp_add_81
        · repeat first | assumption | exact up_s | refine up_e (by omega) ?_
        · exact ixn (by omega)
        · omega
        apply A.iastore (j := a + 1) d_bp_add_82
        · repeat first | assumption | exact up_s | refine up_e (by omega) ?_
        · first | decide | omega
        · exact ixn (by omega)
        · omega
        refine A.aload_k 0 rfl rfl rfl d_bp_add_83 ?_
        apply A.getfield f_bp_21 d_bp_add_84
        · repeat first | assumption | exact up_s | refine up_e (by omega) ?_
        · rfl
        refine A.iload rfl d_bp_add_87 ?_
        refine A.aload_k 0 rfl rfl rfl d_bp_add_89 ?_
        apply A.getfield f_bp_21 d_bp_add_90
        · repeat first | assumption | exact up_s | refine up_e (by omega) ?_
        · rfl
        refine A.iload rfl d_bp_add_93 ?_
        refine A.iconst (v := 1) rfl d_bp_add_95 ?_
        refine A.isub d_bp_add_96 ?_
        rw [nI_pred]
        apply A.iaload (j := a) d_bp_add_97
        · repeat first | assumption | exact up_s | refine up_e (by omega) ?_
        · exact ixn (by omega)
        · omega
        apply A.iastore (j := a + 1) d_bp_add_98
        · repeat first | assumption | exact up_s | refine up_e (by omega) ?_
        · first | decide | omega
        · exact ixn (by omega)
        · omega
        refine A.iincm (n := 4) rfl (Nat.le_of_ble_eq_true rfl) d_bp_add_99 ?_
        dsimp only [List.set]
        refine A.goto 17 (by decide) d_bp_add_102 ?_
        rw [nI_pred, up4, shf_s _ (by omega), shf_s _ (by omega), shf_s _ (by omega), shf_s _ (by omega)]
        exact ih (by omega) (fun k k1 k2 => by
            by_cases e : k = a
            · subst e; exact Int32.not_le.mp c32
            · exact h3 k (by omega) k2)
  refine A.aload_k 0 rfl rfl rfl d_bp_add_0 ?_
  apply A.getfield f_bp_27 d_bp_add_1
  · repeat first | assumption | exact up_s | refine up_e (by first | decide | omega) ?_
  · rfl
  refine A.bipush (v := 12) rfl d_bp_add_4 ?_
  refine A.icmp_lt 11 (by decide) d_bp_add_6 (fun c6 => ?_) (fun c6 => ?_)
  · refine A.aload_k 0 rfl rfl rfl d_bp_add_11 ?_
    apply A.getfield f_bp_27 d_bp_add_12
    · repeat first | assumption | exact up_s | refine up_e (by first | decide | omega) ?_
    · rfl
    refine A.istore (Nat.le_of_ble_eq_true rfl) rfl d_bp_add_15 ?_
    dsimp only [List.set]
    have hlt : Z.length < 12 := (nI_ltI (b := 12) (by omega) (by omega)).mp c6
    have e := loop hlt Z.length (Nat.le_refl _) (fun k k1 k2 => by omega)
    rw [shf_n, shf_n, shf_n, shf_n, up_id z30, up_id z31, up_id z32, up_id z33] at e
    exact e
  · refine A.iconst (v := 0) rfl d_bp_add_9 ?_
    refine A.zret d_bp_add_10 rfl (Or.inl rfl) ?_
    have : ¬ Z.length < 12 := fun q => c6 ((nI_ltI (b := 12) (by omega) (by omega)).mpr q)
    exact h0 (by omega)
end BRICK
