/-! the component: plots forfeited, leases that run out -/
section YEARS
variable {M S : MS} {G : AHp} {kc ks np : Nat} {Q : Option Value → AHp → Prop}
theorem c_af_forfeit (hC : CH G M np) (hw : WF M np) (h : ∀ G', CH G' (frfM M np) np → FrC G G' → Q (some (.int (frfN M np))) G') : A 3 M_af_forfeitBurned 0 [some (.ref 20), none, none, none] [] G kc ks Q := by
  have h24 := hw.2.1
  have hcp := cpN_le h24
  have loop : ∀ (n i : Nat) (G1 : AHp), i ≤ np → np < i + n → CH G1 (frfM M i) np → FrC G G1 → A 3 M_af_forfeitBurned 4 [some (.ref 20), some (.int (frfN M i)), some (.int (nI i)), none] [] G1 kc ks Q := by
    intro n
    induction n with
    | zero => intro i G1 y1 y2; omega
    | succ n ih =>
      intro i G1 y1 y2 hC1 hF1
      have hw1 : WF (frfM M i) np := hw.frf i
      have hr1 := hC1.root.1
      obtain ⟨m, hl1⟩ := hC1.list.1
      have ih := fun G' => ih (i + 1) G' 
      rw [frfM_s, frfN_s] at ih
      refine A.iload_k 2 rfl rfl d_af_forfeitBurned_4 ?_
      refine A.aload_k 0 rfl rfl rfl d_af_forfeitBurned_5 ?_
      apply A.getfield f_af_16 d_af_forfeitBurned_6
      · repeat first | assumption | exact up_s | refine up_e (by first | decide | omega) ?_
      · rfl
      refine A.callV0 s_af_89 ?_ (Nat.le_of_ble_eq_true rfl) (Nat.le_of_ble_eq_true rfl) (Nat.le_of_ble_eq_true rfl) d_af_forfeitBurned_9 rfl (c_al_size (by repeat first | assumption | exact up_s | refine up_e (by first | decide | omega) ?_) ?_)
      · apply Exists.intro
        repeat first | assumption | exact up_s | refine up_e (by first | decide | omega) ?_
      dsimp only [psh]
      refine A.icmp_ge 48 (by decide) d_af_forfeitBurned_12 (fun c12 => ?_) (fun c12 => ?_)
      · refine A.iload_k 1 rfl rfl d_af_forfeitBurned_48 ?_
        refine A.iret d_af_forfeitBurned_49 rfl ?_
        have e : i = np := by
          have := (nI_leI (by omega) (by omega)).mp c12
          omega
        subst e
        exact h _ hC1 hF1
      · have hlt : i < np := Nat.lt_of_not_le (fun z => c12 (nI_le z (by omega)))
        obtain ⟨f, f1, f2⟩ := hC1.list.2.1 (by omega)
        have hpl : G1 (1000 + 16 * i) = some (plO (frfM M i) np i) := (hC1.pl hlt).1
        unfold plO at hpl
        obtain ⟨P, Y, R, a1, a2, a3, a4, a5⟩ := (hC1.pl hlt).2.1
        refine A.aload_k 0 rfl rfl rfl d_af_forfeitBurned_15 ?_
        apply A.getfield f_af_16 d_af_forfeitBurned_16
        · repeat first | assumption | exact up_s | refine up_e (by first | decide | omega) ?_
        · rfl
        refine A.iload_k 2 rfl rfl d_af_forfeitBurned_19 ?_
        refine A.callV1 s_af_179 ?_ (Nat.le_of_ble_eq_true rfl) (Nat.le_of_ble_eq_true rfl) (Nat.le_of_ble_eq_true rfl) d_af_forfeitBurned_20 rfl (c_al_get hl1 f1 hlt (by omega) (f2 i hlt) ?_)
        · apply Exists.intro
          repeat first | assumption | exact up_s | refine up_e (by first | decide | omega) ?_
        dsimp only [psh]
        refine A.cast1 (ci := 5) d_af_forfeitBurned_23 cl_af_93 rfl ?_ ?_
        · apply Exists.intro
          repeat first | assumption | exact up_s | refine up_e (by first | decide | omega) ?_
        refine A.astore_k 3 rfl (Nat.le_of_ble_eq_true rfl) rfl rfl d_af_forfeitBurned_26 ?_
        dsimp only [List.set]
        refine A.aload_k 3 rfl rfl rfl d_af_forfeitBurned_27 ?_
        apply A.getfield f_af_110 d_af_forfeitBurned_28
        · repeat first | assumption | exact up_s | refine up_e (by first | decide | omega) ?_
        · rfl
        refine A.if_ne 42 (by decide) d_af_forfeitBurned_31 (fun c31 => ?_) (fun c31 => ?_)
        · refine A.iincp (n := 2) rfl (Nat.le_of_ble_eq_true rfl) d_af_forfeitBurned_42 ?_
          dsimp only [List.set]
          refine A.goto 4 (by decide) d_af_forfeitBurned_45 ?_
          rw [nI_1]
          refine A.dropat 3 ?_
          dsimp only [List.set]
          first | (rw [if_pos c31, if_pos c31] at ih; exact ih _ (by omega) (by omega) (CH.lose hC1 hw1 hlt (Or.inl rfl) ⟨rfl, rfl, rfl⟩) ((hF1.up (by omega) (by omega)).up (by omega) (by omega))) | (rw [if_neg c31, if_neg c31] at ih; exact ih _ (by omega) (by omega) hC1 hF1)
        · refine A.aload_k 3 rfl rfl rfl d_af_forfeitBurned_34 ?_
          refine A.iconst (v := 2) rfl d_af_forfeitBurned_35 ?_
          refine A.callV1 s_af_285 ?_ (Nat.le_of_ble_eq_true rfl) (Nat.le_of_ble_eq_true rfl) (Nat.le_of_ble_eq_true rfl) d_af_forfeitBurned_36 rfl (c_pl_lose hpl a1 ?_)
          · apply Exists.intro
            repeat first | assumption | exact up_s | refine up_e (by first | decide | omega) ?_
          dsimp only [psh]
          refine A.iincp (n := 1) rfl (Nat.le_of_ble_eq_true rfl) d_af_forfeitBurned_39 ?_
          dsimp only [List.set]
          refine A.iincp (n := 2) rfl (Nat.le_of_ble_eq_true rfl) d_af_forfeitBurned_42 ?_
          dsimp only [List.set]
          refine A.goto 4 (by decide) d_af_forfeitBurned_45 ?_
          rw [nI_1]
          refine A.dropat 3 ?_
          dsimp only [List.set]
          first | (rw [if_pos c31, if_pos c31] at ih; exact ih _ (by omega) (by omega) (CH.lose hC1 hw1 hlt (Or.inl rfl) ⟨rfl, rfl, rfl⟩) ((hF1.up (by omega) (by omega)).up (by omega) (by omega))) | (rw [if_neg c31, if_neg c31] at ih; exact ih _ (by omega) (by omega) hC1 hF1)
  refine A.iconst (v := 0) rfl d_af_forfeitBurned_0 ?_
  refine A.istore_k 1 rfl (Nat.le_of_ble_eq_true rfl) rfl d_af_forfeitBurned_1 ?_
  dsimp only [List.set]
  refine A.iconst (v := 0) rfl d_af_forfeitBurned_2 ?_
  refine A.istore_k 2 rfl (Nat.le_of_ble_eq_true rfl) rfl d_af_forfeitBurned_3 ?_
  dsimp only [List.set]
  exact loop (np + 1) 0 G (by omega) (by omega) hC FrC.rf
theorem pyr_spec : ∀ (n k : Nat) (Y : Nat → Int32) (z : Nat), z ≤ k + n → k ≤ z → ∃ m, k ≤ m ∧ m ≤ z ∧ (pyr n k Y z).2 = m ∧ (∀ j, k ≤ j → j < m → 0 < Y j - 1) ∧ (m < z → ¬ 0 < Y m - 1) ∧ ∀ j, j < m → (pyr n k Y z).1 j = if k ≤ j then Y j - 1 else Y j
  | 0, k, Y, z, h1, h2 => ⟨z, by omega, Nat.le_refl _, rfl, fun j a b => by omega, fun a => by omega, fun j hj => by rw [if_neg (by omega)]; rfl⟩
  | n + 1, k, Y, z, h1, h2 => by
    unfold pyr
    by_cases c : k < z
    · rw [if_pos c]
      by_cases d : 0 < Y k - 1
      · rw [if_pos d]
        obtain ⟨m, m1, m2, m3, m4, m5, m6⟩ := pyr_spec n (k + 1) (upd Y k (Y k - 1)) z (by omega) (by omega)
        refine ⟨m, by omega, m2, m3, fun j a b => ?_, fun a => ?_, fun j hj => ?_⟩
        · by_cases e : j = k
          · subst e; exact d
          · have := m4 j (by omega) b
            rw [upd_ne e] at this
            exact this
        · have := m5 a
          rw [upd_ne (by omega)] at this
          exact this
        · rw [m6 j hj]
          by_cases e : j = k
          · subst e; rw [if_neg (by omega), if_pos (Nat.le_refl _), upd_eq]
          · rw [upd_ne e]
            by_cases e2 : k + 1 ≤ j
            · rw [if_pos e2, if_pos (by omega)]
            · rw [if_neg e2, if_neg (by omega)]
      · rw [if_neg d]
        exact ⟨k, Nat.le_refl _, h2, rfl, fun j a b => by omega, fun _ => d, fun j hj => by rw [if_neg (by omega)]; exact upd_ne (by omega)⟩
    · rw [if_neg c]
      exact ⟨z, by omega, Nat.le_refl _, rfl, fun j a b => by omega, fun a => by omega, fun j hj => by rw [if_neg (by omega)]⟩
theorem oldY_at (Y : Nat → Int32) (p l : Nat) : ∀ j, j ≤ l → ∀ q, oldY Y p l j q = if 4 * p + (l - j) < q ∧ q ≤ 4 * p + l then Y q - 1 else Y q
  | 0, _, q => by rw [if_neg (by omega)]; rfl
  | j + 1, hj, q => by
    rw [oldY_s]
    by_cases e : q = 4 * p + (l - j)
    · subst e
      rw [upd_eq, oldY_at Y p l j (by omega), if_neg (show ¬ (4 * p + (l - j) < 4 * p + (l - j) ∧ 4 * p + (l - j) ≤ 4 * p + l) by omega), if_pos (show 4 * p + (l - (j + 1)) < 4 * p + (l - j) ∧ 4 * p + (l - j) ≤ 4 * p + l by omega)]
    · rw [upd_ne e, oldY_at Y p l j (by omega)]
      by_cases c : 4 * p + (l - j) < q ∧ q ≤ 4 * p + l
      · rw [if_pos c, if_pos (show 4 * p + (l - (j + 1)) < q ∧ q ≤ 4 * p + l by omega)]
      · rw [if_neg c, if_neg (show ¬ (4 * p + (l - (j + 1)) < q ∧ q ≤ 4 * p + l) by omega)]
theorem oldT_spec (Y : Nat → Int32) (p l : Nat) (hl : l ≤ 3) : ∀ j, j ≤ l → ∃ m, l - j < m ∧ m ≤ l + 1 ∧ oldT Y p l j = nI (m - 1) ∧ (∀ i, l - j < i → i < m → ¬ Y (4 * p + i) - 1 = 0) ∧ (m ≤ l → Y (4 * p + m) - 1 = 0)
  | 0, _ => ⟨l + 1, by omega, Nat.le_refl _, rfl, fun i a b => by omega, fun a => by omega⟩
  | j + 1, hj => by
    obtain ⟨m, m1, m2, m3, m4, m5⟩ := oldT_spec Y p l hl j (by omega)
    rw [oldT_s, oldY_at Y p l j (by omega), if_neg (show ¬ (4 * p + (l - j) < 4 * p + (l - j) ∧ 4 * p + (l - j) ≤ 4 * p + l) by omega)]
    by_cases c : Y (4 * p + (l - j)) - 1 = 0
    · rw [if_pos c]
      refine ⟨l - j, by omega, by omega, nI_1s (by omega) (by omega), fun i a b => by omega, fun _ => c⟩
    · rw [if_neg c]
      refine ⟨m, by omega, m2, m3, fun i a b => ?_, m5⟩
      by_cases e : i = l - j
      · subst e; exact c
      · exact m4 i (by omega) b
/-- a year for the chain of the plot p -/
theorem CH.older {p l : Nat} {P Y R : Nat → Int32} (hC : CH G M np) (hw : WF M np) (hp : p < np) (hB : BP M p) (h7 : M 7 p = nI l) (hl : l ≤ 3) (a1 : G (1001 + 16 * p) = some (oB 3 [.ref (1002 + 16 * p), .ref (1003 + 16 * p), .ref (1004 + 16 * p), .int (nI (zM M p))])) (a2 : G (1002 + 16 * p) = some (aI 4 P)) (a4 : G (1004 + 16 * p) = some (aI 4 R)) (a5 : ∀ j, j < zM M p → P j = M 8 (4 * p + j) ∧ Y j = M 9 (4 * p + j) ∧ R j = if j = 0 then 0 else M 10 (4 * p + j)) : CH (up (up G (1003 + 16 * p) (aI 4 (pyr 3 1 Y (zM M p)).1)) (1001 + 16 * p) (oB 3 [.ref (1002 + 16 * p), .ref (1003 + 16 * p), .ref (1004 + 16 * p), .int (nI (pyr 3 1 Y (zM M p)).2)])) (mOld M p l) np := by
  have e7 : mOld M p l 7 = upd (M 7) p (oldT (M 9) p l l) := rfl
  have e9 : mOld M p l 9 = oldY (M 9) p l l := rfl
  have eo : ∀ k, k ≠ 7 → k ≠ 9 → mOld M p l k = M k := fun k a b => by unfold mOld; rw [vn a, vn b]
  have hy := oldY_at (M 9) p l l (Nat.le_refl _)
  have key : (pyr 3 1 Y (zM M p)).2 = zM (mOld M p l) p ∧ ∀ j, j < zM (mOld M p l) p → j < zM M p ∧ (pyr 3 1 Y (zM M p)).1 j = mOld M p l 9 (4 * p + j) := by
    by_cases g : M 6 p = 2 ∨ M 6 p = 3
    · rw [zM_gone g, zM_gone (show mOld M p l 6 p = 2 ∨ mOld M p l 6 p = 3 from g)]
      exact ⟨rfl, fun j hj => absurd hj (by omega)⟩
    · have hz := zM_of g h7 hl
      rw [hz] at a5 ⊢
      obtain ⟨m, m1, m2, m3, m4, m5, m6⟩ := pyr_spec 3 1 Y (l + 1) (by omega) (by omega)
      obtain ⟨m', n1, n2, n3, n4, n5⟩ := oldT_spec (M 9) p l hl l (Nat.le_refl _)
      have eq : ∀ i, 1 ≤ i → i ≤ l → (0 < Y i - 1 ↔ ¬ M 9 (4 * p + i) - 1 = 0) := by
        intro i h1 h2
        rw [(a5 i (by omega)).2.1]
        obtain ⟨y, y1, y2, y3⟩ := (hB.2.2.2.2.2.2 l i h7 hl h2).1
        rw [y3, nI_1s y1 (by omega)]
        rw [show (0 : Int32) = nI 0 from rfl, nI_ltI (by omega) (by omega), nI_eq (by omega) (by omega)]
        omega
      have em : m = m' := by
        rcases Nat.lt_trichotomy m m' with y | y | y
        · exact absurd ((eq m m1 (by omega)).mpr (n4 m (by omega) y)) (m5 (by omega))
        · exact y
        · exact absurd (n5 (by omega)) ((eq m' (by omega) (by omega)).mp (m4 m' (by omega) y))
      subst em
      have hz' : zM (mOld M p l) p = m := by
        have : zM (mOld M p l) p = m - 1 + 1 := zM_of g (by rw [e7, upd_eq]; exact n3) (by omega)
        omega
      rw [hz', m3]
      refine ⟨rfl, fun j hj => ⟨by omega, ?_⟩⟩
      rw [m6 j hj, e9, hy, (a5 j (by omega)).2.1]
      by_cases c : 1 ≤ j
      · rw [if_pos c, if_pos (show 4 * p + (l - l) < 4 * p + j ∧ 4 * p + j ≤ 4 * p + l by omega)]
      · rw [if_neg c, if_neg (show ¬ (4 * p + (l - l) < 4 * p + j ∧ 4 * p + j ≤ 4 * p + l) by omega)]
  refine hC.one hw hp (fun a ha => (up_n (by omega)).trans (up_n (by omega))) (fun k hk => eo k (by omega) (by omega)) (fun q k hq => ?_) (fun q k j hq h1 h2 h3 => ?_) ⟨?_, ⟨P, (pyr 3 1 Y (zM M p)).1, R, ?_, ?_, ?_, ?_, fun j hj => ?_⟩, ?_⟩
  · by_cases c7 : k = 7
    · subst c7; rw [e7, upd_ne hq]; exact Or.inl rfl
    · by_cases c9 : k = 9
      · exact Or.inr (by omega)
      · rw [eo k c7 c9]; exact Or.inl rfl
  · by_cases c9 : k = 9
    · subst c9
      rw [e9, hy, if_neg (by omega)]
    · rw [eo k (by omega) c9]
  · rw [up_n (by omega), up_n (by omega), (hC.pl hp).1]
    unfold plO
    rw [wVA (M := M) (M' := mOld M p l) rfl, wVB (M := M) (M' := mOld M p l) rfl]
    rfl
  · rw [← key.1]; exact up_s
  · exact up_e (by omega) (up_e (by omega) a2)
  · exact up_e (by omega) up_s
  · exact up_e (by omega) (up_e (by omega) a4)
  · obtain ⟨k1, k2⟩ := key.2 j hj
    obtain ⟨b1, b2, b3⟩ := a5 j k1
    exact ⟨b1, k2, b3⟩
  · exact (hC.pl hp).2.2.fr ((up_n (by omega)).trans (up_n (by omega))) rfl rfl rfl
end YEARS
