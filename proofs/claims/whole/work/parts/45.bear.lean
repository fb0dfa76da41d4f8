/-! the component: bears; walls -/
section BEAR
variable {M S : MS} {G : AHp} {kc ks np : Nat} {Q : Option Value → AHp → Prop}
theorem CH.shr (h : CH G M np) (hw : WF M np) (P : Nat → Int32) (C : Nat → Int64) : CH (up (up G 28 (aI 4 P)) 29 (aL 4 C)) M np := by
  have hG : ∀ a, a ≠ 28 → a ≠ 29 → up (up G 28 (aI 4 P)) 29 (aL 4 C) a = G a := fun a x y => (up_n y).trans (up_n x)
  exact ⟨⟨(hG _ (by omega) (by omega)).trans h.root.1, (hG _ (by omega) (by omega)).trans h.root.2⟩, h.list.fr (fun a x => hG a (by omega) (by omega)), h.str.fr (fun a x => hG a (by omega) (by omega)) rfl rfl, ⟨(hG _ (by omega) (by omega)).trans h.sh.1, ⟨P, up_e (by decide) up_s⟩, ⟨C, up_s⟩⟩, h.br.fr (fun a x => hG a (by omega) (by omega)), h.ct.fr (fun a x => hG a (by omega) (by omega)) rfl rfl rfl rfl, h.sv.fr (fun a x => hG a (by omega) (by omega)), fun p hp => (h.pl hp).fr (hw.zle p) (fun a x y => hG a (by omega) (by omega)) (fun _ _ => rfl) (fun _ _ _ _ _ => rfl) rfl, h.fre.fr (fun a x => hG a (by omega) (by omega)) hw.2.1⟩
theorem c_divide {p l b : Nat} (hC : CH G M np) (hI : INV M np) (hp : p < np) (g : ¬ (M 6 p = 2 ∨ M 6 p = 3)) (h7 : M 7 p = nI l) (hl : l ≤ 3) (hb : b ≤ l) (h : ∀ P C', (∀ k, k ≤ l → ∀ P0 C0, P k = parP M p l (nI b) P0 C0 k) → Q none (up (up G 28 (aI 4 P)) 29 (aL 4 C'))) : A 4 M_sh_divide 0 [some (.ref 24), some (.ref (1000 + 16 * p)), some (.int (cstM M p)), some (.int (nI b)), none, none, none] [] G kc ks Q := by
  have hw := hI.1
  have hB := hI.2.2.2.1 p hp
  obtain ⟨s1, ⟨P, s2⟩, ⟨C, s3⟩⟩ := hC.sh
  obtain ⟨Pp, Y, R, a1, a2, a3, a4, a5⟩ := (hC.pl hp).2.1
  have hpl : G (1000 + 16 * p) = some (plO M np p) := (hC.pl hp).1
  have hz := zM_of g h7 hl
  have i1 : ∀ k, k ≤ l → intK (zM M p) Y R k (M 4 p * M 5 p / 20) = intM M p k := fun k hk => intK_M hw g h7 hl hk a5
  have i0 : ∀ k, l < k → intK (zM M p) Y R k (M 4 p * M 5 p / 20) = 0 := fun k hk => if_neg (by omega)
  rw [hz] at a1 i1 i0
  unfold plO at hpl
  refine c_sh_divide (r := hN (rsF (cstM M p) (pK0 (fun k => intK (l + 1) Y R k (M 4 p * M 5 p / 20)) (cstM M p) (smK (fun k => intK (l + 1) Y R k (M 4 p * M 5 p / 20)) (l + 1))) 4)) s1 s2 s3 hpl a1 a3 a4 (by omega) (by omega) (by omega) (fun hs => ?_) (fun hs C' => ?_) (fun hs => ?_)
  · exact (parts_pos (b := b) (P := P) (P0 := P) (C := C) (C0 := C) hB hI.2.2.1 h7 hl i1 i0 hs rfl).1
  · exact h _ C' (fun k hk P0 C0 => (parts_pos (b := b) (P := P0) (P0 := P) (C := C0) (C0 := C) hB hI.2.2.1 h7 hl i1 i0 hs rfl).2 k hk)
  · have e := h _ C (fun k hk P0 C0 => parts_zero (b := b) (P := P0) (P0 := P) (C := C0) hB h7 hl hb i1 hs k hk)
    rw [up_id (G := up G 28 _) (up_e (by decide) s3)] at e
    exact e
theorem c_af_bears {x k : Int32} (hC : CH G M np) (hI : INV M np) (h1 : ∀ p j l b, p < np → x = nI p → M 7 p = nI l → l ≤ 3 → j ≤ l → k = nI j → ¬ (M 6 p = 2 ∨ M 6 p = 3) → b ≤ l → bldM M p (l + 1) = nI b → ∀ G', CH G' M np → FrC G G' → ∀ v, (∀ P0 C0, v = parP M p l (nI b) P0 C0 j) → Q (some (.int v)) G')
    (h2 : ∀ p j l, p < np → x = nI p → M 7 p = nI l → l ≤ 3 → j ≤ l → k = nI j → ¬ (M 6 p = 2 ∨ M 6 p = 3) → bldM M p (l + 1) = -1 → Q (some (.int (-1))) G)
    (h0 : (∀ p j l, p < np → x = nI p → M 7 p = nI l → l ≤ 3 → j ≤ l → k = nI j → (M 6 p = 2 ∨ M 6 p = 3)) → Q (some (.int (-1))) G) : A 5 M_af_bears 0 [some (.ref 20), some (.int x), some (.int k), none, none] [] G kc ks Q := by
  have hw := hI.1
  have hr := hC.root.1
  have hsh := hC.sh.1
  refine A.aload_k 0 rfl rfl rfl d_af_bears_0 ?_
  refine A.iload_k 1 rfl rfl d_af_bears_1 ?_
  refine A.callV1 s_af_106 ?_ (Nat.le_of_ble_eq_true rfl) (Nat.le_of_ble_eq_true rfl) (Nat.le_of_ble_eq_true rfl) d_af_bears_2 rfl (c_af_plotAt hC hw.2.1 (fun p hp hx => ?_) (fun q0 => ?_))
  · apply Exists.intro
    repeat first | assumption | exact up_s | refine up_e (by first | decide | omega) ?_
  · dsimp only [psh]
    refine A.astore_k 3 rfl (Nat.le_of_ble_eq_true rfl) rfl rfl d_af_bears_5 ?_
    dsimp only [List.set]
    refine A.aload_k 3 rfl rfl rfl d_af_bears_6 ?_
    refine A.ifnull_r d_af_bears_7 ?_
    obtain ⟨P, Y, R, a1, a2, a3, a4, a5⟩ := (hC.pl hp).2.1
    have hpl := (hC.pl hp).1
    have hz := hw.zle p
    refine A.aload_k 3 rfl rfl rfl d_af_bears_10 ?_
    apply A.getfield f_af_113 d_af_bears_11
    · repeat first | assumption | exact up_s | refine up_e (by first | decide | omega) ?_
    · rfl
    refine A.iload_k 2 rfl rfl d_af_bears_14 ?_
    refine A.callV1 s_af_130 ?_ (Nat.le_of_ble_eq_true rfl) (Nat.le_of_ble_eq_true rfl) (Nat.le_of_ble_eq_true rfl) d_af_bears_15 rfl (c_ch_reaches (by repeat first | assumption | exact up_s | refine up_e (by first | decide | omega) ?_) hz (fun j r1 r2 => ?_) (fun r3 => ?_))
    · apply Exists.intro
      repeat first | assumption | exact up_s | refine up_e (by first | decide | omega) ?_
    · dsimp only [psh]
      refine A.if_ne1 23 (by decide) d_af_bears_18 ?_
      obtain ⟨g, l, l1, l2, l3⟩ := zM_lt hw r1
      refine A.aload_k 0 rfl rfl rfl d_af_bears_23 ?_
      refine A.aload_k 3 rfl rfl rfl d_af_bears_24 ?_
      refine A.callV1 s_af_137 ?_ (Nat.le_of_ble_eq_true rfl) (Nat.le_of_ble_eq_true rfl) (Nat.le_of_ble_eq_true rfl) d_af_bears_25 rfl (c_af_findBuilder hC hw hp g l1 l2 ?_)
      · apply Exists.intro
        repeat first | assumption | exact up_s | refine up_e (by first | decide | omega) ?_
      dsimp only [psh]
      refine A.istore (Nat.le_of_ble_eq_true rfl) rfl d_af_bears_28 ?_
      dsimp only [List.set]
      refine A.iload rfl d_af_bears_30 ?_
      refine A.iconst (v := -1) rfl d_af_bears_32 ?_
      refine A.icmp_ne 38 (by decide) d_af_bears_33 (fun c33 => ?_) (fun c33 => ?_)
      rotate_left
      · refine A.iconst (v := -1) rfl d_af_bears_36 ?_
        refine A.iret d_af_bears_37 rfl ?_
        exact h2 p j l hp hx l1 l2 l3 r2 g c33
      obtain ⟨b, hb, eb⟩ := (bldM_cases M p (l + 1)).resolve_left c33
      refine A.aload_k 0 rfl rfl rfl d_af_bears_38 ?_
      apply A.getfield f_af_29 d_af_bears_39
      · repeat first | assumption | exact up_s | refine up_e (by first | decide | omega) ?_
      · rfl
      refine A.aload_k 3 rfl rfl rfl d_af_bears_42 ?_
      refine A.aload_k 0 rfl rfl rfl d_af_bears_43 ?_
      refine A.aload_k 3 rfl rfl rfl d_af_bears_44 ?_
      refine A.callV1 s_af_141 ?_ (Nat.le_of_ble_eq_true rfl) (Nat.le_of_ble_eq_true rfl) (Nat.le_of_ble_eq_true rfl) d_af_bears_45 rfl (c_af_costOf (by repeat first | assumption | exact up_s | refine up_e (by first | decide | omega) ?_) (by repeat first | assumption | exact up_s | refine up_e (by first | decide | omega) ?_) ?_)
      · apply Exists.intro
        repeat first | assumption | exact up_s | refine up_e (by first | decide | omega) ?_
      dsimp only [psh]
      refine A.iload rfl d_af_bears_48 ?_
      rw [eb]
      refine A.callV3 s_af_144 ?_ (Nat.le_of_ble_eq_true rfl) (Nat.le_of_ble_eq_true rfl) (Nat.le_of_ble_eq_true rfl) d_af_bears_50 rfl (c_divide hC hI hp g l1 l2 (by omega) (fun P' C' e => ?_))
      · apply Exists.intro
        repeat first | assumption | exact up_s | refine up_e (by first | decide | omega) ?_
      dsimp only [psh]
      have hC' := hC.shr hw P' C'
      refine A.aload_k 0 rfl rfl rfl d_af_bears_53 ?_
      apply A.getfield f_af_29 d_af_bears_54
      · repeat first | assumption | exact up_s | refine up_e (by first | decide | omega) ?_
      · rfl
      refine A.iload_k 2 rfl rfl d_af_bears_57 ?_
      rw [r2]
      refine A.callV1 s_af_148 ?_ (Nat.le_of_ble_eq_true rfl) (Nat.le_of_ble_eq_true rfl) (Nat.le_of_ble_eq_true rfl) d_af_bears_58 rfl (c_sh_partOf (by repeat first | assumption | exact up_s | refine up_e (by first | decide | omega) ?_) (by repeat first | assumption | exact up_s | refine up_e (by first | decide | omega) ?_) (by omega) ?_)
      · apply Exists.intro
        repeat first | assumption | exact up_s | refine up_e (by first | decide | omega) ?_
      dsimp only [psh]
      refine A.iret d_af_bears_61 rfl ?_
      exact h1 p j l b hp hx l1 l2 l3 r2 g (by omega) eb _ hC' ((FrC.rf.up (by decide) (by decide)).up (by decide) (by decide)) _ (e j l3)
    · dsimp only [psh]
      refine A.if_ne0 d_af_bears_18 (tgt := 23) (by decide) ?_
      refine A.iconst (v := -1) rfl d_af_bears_21 ?_
      refine A.iret d_af_bears_22 rfl ?_
      first | exact h0 (fun p j l e1 e2 => absurd e2 (q0 p e1)) | exact h0 (fun p' j l e1 e2 e3 e4 e5 e6 => Decidable.byContradiction (fun g => by
          have e7 : p' = p := nI_inj (by have := hw.2.1; omega) (by have := hw.2.1; omega) (e2.symm.trans hx)
          subst e7
          exact r3 j (by rw [zM_of g e3 e4]; omega) e6))
  · dsimp only [psh]
    refine A.astore_k 3 rfl (Nat.le_of_ble_eq_true rfl) rfl rfl d_af_bears_5 ?_
    dsimp only [List.set]
    refine A.aload_k 3 rfl rfl rfl d_af_bears_6 ?_
    refine A.ifnull_0 21 (by decide) d_af_bears_7 ?_
    refine A.iconst (v := -1) rfl d_af_bears_21 ?_
    refine A.iret d_af_bears_22 rfl ?_
    first | exact h0 (fun p j l e1 e2 => absurd e2 (q0 p e1)) | exact h0 (fun p' j l e1 e2 e3 e4 e5 e6 => Decidable.byContradiction (fun g => by
        have e7 : p' = p := nI_inj (by have := hw.2.1; omega) (by have := hw.2.1; omega) (e2.symm.trans hx)
        subst e7
        exact r3 j (by rw [zM_of g e3 e4]; omega) e6))
theorem c_settle0 {n : Int32} (h : Q none G) : A 4 M_af_settleWall 0 [some (.ref 20), some .null, some (.int n)] [] G kc ks Q := by
  refine A.aload_k 1 rfl rfl rfl d_af_settleWall_0 ?_
  refine A.ifnull_0 11 (by decide) d_af_settleWall_1 ?_
  refine A.vret d_af_settleWall_11 rfl ?_
  exact h
theorem st01 {x : Int32} (h : x = 0 ∨ x = 1 ∨ x = 2 ∨ x = 3) : (x = 0 ∨ x = 1) ↔ ¬ (x = 2 ∨ x = 3) := by
  rcases h with e | e | e | e <;> subst e <;> decide
theorem c_settle1 {a b o : Nat} (hC : CH G M np) (hw : WF M np) (hst : ∀ p, p < np → (M 6 p = 0 ∨ M 6 p = 1 ∨ M 6 p = 2 ∨ M 6 p = 3)) (ha : a < np) (hb : b < np) (hab : a < b) (hx : nxt M np a = nI b) (ho : o < 20) (h : ∀ G', CH G' (wallI M (nI a) (nI b) o) np → FrC G G' → Q none G') : A 4 M_af_settleWall 0 [some (.ref 20), some (.ref (1005 + 16 * a)), some (.int (nI o))] [] G kc ks Q := by
  have h24 := hw.2.1
  have hr := hC.root.1
  have h21 := hC.root.2
  have hpa : G (1000 + 16 * a) = some (plO M np a) := (hC.pl ha).1
  have hpb : G (1000 + 16 * b) = some (plO M np b) := (hC.pl hb).1
  unfold plO at hpa hpb
  obtain ⟨pr, w1, w2⟩ := (hC.pl ha).2.2.2 b hb hx
  have eW : wallI M (nI a) (nI b) o = if (M 6 a = 2 ∨ M 6 a = 3) ∨ (M 6 b = 2 ∨ M 6 b = 3) then M else mWall M a b o := by
    unfold wallI
    rw [hN_nI (by omega), hN_nI (by omega)]
    by_cases c : (M 6 a = 2 ∨ M 6 a = 3) ∨ (M 6 b = 2 ∨ M 6 b = 3)
    · rw [if_pos c, if_pos (Or.inr (Or.inr c))]
    · rw [if_neg c, if_neg (by rintro (y | y | y); exact nI_nm1 (by omega) y; exact nI_nm1 (by omega) y; exact c y)]
  rw [eW] at h
  have e3 : (if M 5 b < M 5 a then M 5 b else M 5 a) * 3 = 3 * minD M a b := by
    rw [Int32.mul_comm]
    unfold minD
    by_cases c : M 5 b < M 5 a
    · rw [if_pos c, if_pos (Int32.le_of_lt c)]
    · rw [if_neg c]
      by_cases c2 : M 5 b ≤ M 5 a
      · rw [if_pos c2, Int32.le_antisymm c2 (Int32.not_lt.mp c)]
      · rw [if_neg c2]
  have fin : CH (up (up G (1005 + 16 * a) (oB 9 [.ref (1000 + 16 * a), .ref (1000 + 16 * b), .int (3 * minD M a b), .int (nI o)])) 21 (aI 20 (upd (M 1) o (M 1 o - 3 * minD M a b)))) (va_up (va_up (va_up M 14 (upd (M 14) a (nI o))) 15 (upd (M 15) a (3 * minD M a b))) 1 (upd (M 1) o (M 1 o - 3 * minD M a b))) np := by
    refine hC.mk1 h24 ⟨up_e (by omega) (up_e (by omega) hr), up_s⟩ (fun p hp => ?_) (fun q x => (up_n (by omega)).trans (up_n (by omega))) rfl rfl rfl rfl rfl rfl
    have eo : ∀ k q, (q ≠ a ∨ (k ≠ 14 ∧ k ≠ 15)) → k ≠ 1 → (va_up (va_up (va_up M 14 (upd (M 14) a (nI o))) 15 (upd (M 15) a (3 * minD M a b))) 1 (upd (M 1) o (M 1 o - 3 * minD M a b))) k q = M k q := by
      intro k q hq h1
      rw [vn h1]
      by_cases c15 : k = 15
      · subst c15; rw [vs, upd_ne (by omega)]
      · rw [vn c15]
        by_cases c14 : k = 14
        · subst c14; rw [vs, upd_ne (by omega)]
        · rw [vn c14]
    by_cases e : p = a
    · subst e
      refine ⟨?_, (hC.pl hp).2.1.fr (fun q x y => (up_n (by omega)).trans (up_n (by omega))) (Or.inl rfl) rfl (fun _ _ => ⟨rfl, rfl, rfl⟩), ⟨fun z => ?_, fun b' hb' e => ⟨3 * minD M p b, ?_, fun _ => ?_⟩⟩⟩
      · rw [up_n (by omega), up_n (by omega), hpa]
        unfold plO
        rw [wVA (M := M) (M' := va_up (va_up (va_up M 14 _) 15 _) 1 _) rfl, wVB (M := M) (M' := va_up (va_up (va_up M 14 _) 15 _) 1 _) rfl]
        rfl
      · rw [nxt_c (M := M) (M' := va_up (va_up (va_up M 14 _) 15 _) 1 _) rfl, hx] at z
        exact absurd z (nI_nm1 (by omega))
      · rw [nxt_c (M := M) (M' := va_up (va_up (va_up M 14 _) 15 _) 1 _) rfl, hx] at e
        obtain rfl : b = b' := nI_inj (by omega) (by omega) e
        rw [up_n (by omega), up_s]
        show _ = some (oB 9 [_, _, _, .int (upd (M 14) p (nI o) p)])
        rw [upd_eq]
      · show _ = upd (M 15) p (3 * minD M p b) p
        rw [upd_eq]
    · exact (hC.pl hp).fr (hw.zle p) (fun q x y => (up_n (by omega)).trans (up_n (by omega))) (fun k hk => eo k p (Or.inl e) (by omega)) (fun k j x y z => eo k _ (Or.inr (by omega)) (by omega)) rfl
  refine A.aload_k 1 rfl rfl rfl d_af_settleWall_0 ?_
  refine A.ifnull_r d_af_settleWall_1 ?_
  refine A.aload_k 1 rfl rfl rfl d_af_settleWall_4 ?_
  refine A.callV0 s_af_267 ?_ (Nat.le_of_ble_eq_true rfl) (Nat.le_of_ble_eq_true rfl) (Nat.le_of_ble_eq_true rfl) d_af_settleWall_5 rfl (c_wl_hasBothSides w1 hpa hpb (fun t1 t2 => ?_) (fun t0 => ?_))
  · apply Exists.intro
    repeat first | assumption | exact up_s | refine up_e (by omega) ?_
  · dsimp only [psh]
    refine A.if_ne1 12 (by decide) d_af_settleWall_8 ?_
    have ng : ¬ ((M 6 a = 2 ∨ M 6 a = 3) ∨ (M 6 b = 2 ∨ M 6 b = 3)) := fun z => z.elim ((st01 (hst a ha)).mp t1) ((st01 (hst b hb)).mp t2)
    rw [if_neg ng] at h
    refine A.aload_k 1 rfl rfl rfl d_af_settleWall_12 ?_
    refine A.callV0 s_af_273 ?_ (Nat.le_of_ble_eq_true rfl) (Nat.le_of_ble_eq_true rfl) (Nat.le_of_ble_eq_true rfl) d_af_settleWall_13 rfl (c_wl_isPaid w1 (fun s1 => ?_) (fun s0 => ?_))
    · apply Exists.intro
      repeat first | assumption | exact up_s | refine up_e (by omega) ?_
    · dsimp only [psh]
      refine A.if_eq1 d_af_settleWall_16 (tgt := 37) (by decide) ?_
      obtain ⟨w, hw1, hw2⟩ := (hw.2.2.2.2.1 a).resolve_left s1
      obtain rfl := w2 s1
      refine A.aload_k 0 rfl rfl rfl d_af_settleWall_19 ?_
      refine A.iload_k 2 rfl rfl d_af_settleWall_20 ?_
      refine A.aload_k 1 rfl rfl rfl d_af_settleWall_21 ?_
      apply A.getfield f_af_276 d_af_settleWall_22
      · repeat first | assumption | exact up_s | refine up_e (by omega) ?_
      · rfl
      refine A.aload_k 1 rfl rfl rfl d_af_settleWall_25 ?_
      apply A.getfield f_af_279 d_af_settleWall_26
      · repeat first | assumption | exact up_s | refine up_e (by omega) ?_
      · rfl
      refine A.iconst (v := 2) rfl d_af_settleWall_29 ?_
      refine A.idiv (by decide) d_af_settleWall_30 ?_
      rw [hw2]
      refine A.callV3 s_af_264 ?_ (Nat.le_of_ble_eq_true rfl) (Nat.le_of_ble_eq_true rfl) (Nat.le_of_ble_eq_true rfl) d_af_settleWall_31 rfl (c_af_move hr h21 ho hw1 ?_)
      · apply Exists.intro
        repeat first | assumption | exact up_s | refine up_e (by omega) ?_
      dsimp only [psh]
      refine A.goto 62 (by decide) d_af_settleWall_34 ?_
      refine A.vret d_af_settleWall_62 rfl ?_
      unfold mWall at h
      first | (rw [if_neg s1, hw2, hN_nI (by omega)] at h; exact h _ (hC.purse hw _) (FrC.rf.up (by decide) (by decide))) | (rw [if_pos s0] at h; rw [up_up, e3, ← Int32.sub_eq_add_neg]; exact h _ fin ((FrC.rf.up (by omega) (by omega)).up (by decide) (by decide)))
    · dsimp only [psh]
      refine A.if_eq0 37 (by decide) d_af_settleWall_16 ?_
      refine A.aload_k 1 rfl rfl rfl d_af_settleWall_37 ?_
      refine A.aload_k 1 rfl rfl rfl d_af_settleWall_38 ?_
      refine A.callV0 s_af_282 ?_ (Nat.le_of_ble_eq_true rfl) (Nat.le_of_ble_eq_true rfl) (Nat.le_of_ble_eq_true rfl) d_af_settleWall_39 rfl (c_wl_lesserDepth w1 hpa hpb ?_)
      · apply Exists.intro
        repeat first | assumption | exact up_s | refine up_e (by omega) ?_
      dsimp only [psh]
      refine A.iconst (v := 3) rfl d_af_settleWall_42 ?_
      refine A.imul d_af_settleWall_43 ?_
      apply A.putfield p_af_279 d_af_settleWall_44
      · repeat first | assumption | exact up_s | refine up_e (by omega) ?_
      · exact (Nat.le_of_ble_eq_true rfl)
      · rfl
      dsimp only [List.set]
      refine A.aload_k 1 rfl rfl rfl d_af_settleWall_47 ?_
      refine A.iload_k 2 rfl rfl d_af_settleWall_48 ?_
      apply A.putfield p_af_276 d_af_settleWall_49
      · repeat first | assumption | exact up_s | refine up_e (by omega) ?_
      · exact (Nat.le_of_ble_eq_true rfl)
      · rfl
      dsimp only [List.set]
      refine A.aload_k 0 rfl rfl rfl d_af_settleWall_52 ?_
      refine A.iload_k 2 rfl rfl d_af_settleWall_53 ?_
      refine A.aload_k 1 rfl rfl rfl d_af_settleWall_54 ?_
      apply A.getfield f_af_279 d_af_settleWall_55
      · repeat first | assumption | exact up_s | refine up_e (by omega) ?_
      · rfl
      refine A.ineg d_af_settleWall_58 ?_
      refine A.callV2 s_af_81 ?_ (Nat.le_of_ble_eq_true rfl) (Nat.le_of_ble_eq_true rfl) (Nat.le_of_ble_eq_true rfl) d_af_settleWall_59 rfl (c_af_give (by repeat first | assumption | exact up_s | refine up_e (by omega) ?_) (by repeat first | assumption | exact up_s | refine up_e (by omega) ?_) ho ?_)
      · apply Exists.intro
        repeat first | assumption | exact up_s | refine up_e (by omega) ?_
      dsimp only [psh]
      refine A.vret d_af_settleWall_62 rfl ?_
      unfold mWall at h
      first | (rw [if_neg s1, hw2, hN_nI (by omega)] at h; exact h _ (hC.purse hw _) (FrC.rf.up (by decide) (by decide))) | (rw [if_pos s0] at h; rw [up_up, e3, ← Int32.sub_eq_add_neg]; exact h _ fin ((FrC.rf.up (by omega) (by omega)).up (by decide) (by decide)))
  · dsimp only [psh]
    refine A.if_ne0 d_af_settleWall_8 (tgt := 12) (by decide) ?_
    refine A.vret d_af_settleWall_11 rfl ?_
    rw [if_pos (by
      by_cases c1 : M 6 a = 2 ∨ M 6 a = 3
      · exact Or.inl c1
      · by_cases c2 : M 6 b = 2 ∨ M 6 b = 3
        · exact Or.inr c2
        · exact absurd ⟨(st01 (hst a ha)).mpr c1, (st01 (hst b hb)).mpr c2⟩ t0)] at h
    exact h G hC FrC.rf
end BEAR
