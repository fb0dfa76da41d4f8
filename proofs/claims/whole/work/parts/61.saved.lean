/-! the component: saved, heap -/
section SAVED
variable {M S : MS} {G : AHp} {kc ks np : Nat} {Q : Option Value → AHp → Prop}
theorem bs_spec {f : Nat → Nat} {n : Nat} {b x : Int32} {W V : Nat → Nat} (hW : ∀ h, h < 2 ^ n → sumH M f h n = nI (W h) ∧ W h ≤ 10000) (hV : ∀ h, h < 2 ^ n → cvH f h n = nI (V h)) (hm : ∀ h h', h ≤ h' → h' < 2 ^ n → V h ≤ V h') (h0 : cbB M f 0 n b = true) : ∀ H, 1 ≤ H → H ≤ 2 ^ n → ∃ h, h < H ∧ cbB M f h n b = true ∧ bsM M f n b x H = (nI (W h), nI (V h)) ∧ ∀ j, j < H → cbB M f j n b = true → ge2 (W h, V h) (W j, V j) := by
  intro H
  induction H with
  | zero => intro h; omega
  | succ H ih =>
    intro h1 h2
    obtain ⟨w1, w2⟩ := hW H (by omega)
    rw [bsM_s, w1, hV H (by omega)]
    by_cases c : H = 0
    · subst c
      rw [if_neg (show ¬ nI (W 0) ≤ (bsM M f n b x 0).1 from fun z => by
        have z : nI (W 0) ≤ -1 := z
        rw [Int32.le_iff_toInt_le, ixn (by omega)] at z
        have : (-1 : Int32).toInt = -1 := by decide
        omega), if_pos h0]
      exact ⟨0, by omega, h0, rfl, fun j hj _ => by rw [show j = 0 by omega]; exact ge2_rfl _⟩
    · obtain ⟨h, a1, a2, a3, a4⟩ := ih (by omega) (by omega)
      obtain ⟨v1, v2⟩ := hW h (by omega)
      rw [a3]
      by_cases d : W H ≤ W h
      · rw [if_pos (show nI (W H) ≤ nI (W h) from nI_le d (by omega))]
        refine ⟨h, by omega, a2, rfl, fun j hj hc => ?_⟩
        by_cases e : j = H
        · subst e
          have := hm h j (by omega) (by omega)
          unfold ge2
          show W j < W h ∨ (W j = W h ∧ V h ≤ V j)
          omega
        · exact a4 j (by omega) hc
      · rw [if_neg (show ¬ nI (W H) ≤ nI (W h) from fun z => d ((nI_leI (by omega) (by omega)).mp z))]
        by_cases e : cbB M f H n b = true
        · rw [if_pos e]
          refine ⟨H, by omega, e, rfl, fun j hj hc => ?_⟩
          by_cases e2 : j = H
          · subst e2; exact ge2_rfl _
          · refine ge2_tr (Or.inl ?_) (a4 j (by omega) hc)
            show W h < W H
            omega
        · rw [if_neg e]
          refine ⟨h, by omega, a2, rfl, fun j hj hc => ?_⟩
          by_cases e2 : j = H
          · subst e2; exact absurd hc e
          · exact a4 j (by omega) hc
theorem bricks_eq {b x : Int32} {Z : List Nat} (hI : INV M np) (b1 : 1 ≤ b) (b2 : b ≤ 2000) (h12 : (brn M np).length ≤ 12) (hperm : Z.Perm (brn M np)) (hsrt : srt (rmI M b) Z) : bsM M (fun k => (brn M np).getD k 0) (brn M np).length b x (2 ^ (brn M np).length) = (nI (src (ndN M) (wtN M) (fun p => (rmI M b p).toInt) Z 0 0 0 (0, 0)).1, nI (src (ndN M) (wtN M) (fun p => (rmI M b p).toInt) Z 0 0 0 (0, 0)).2) := by
  have h24 := hI.1.2.1
  obtain ⟨⟨now, n1, n2, -⟩, -⟩ := hI.2.2.1
  obtain ⟨bb, c1, c2⟩ := in_lit (n := 2000) (by decide) (by omega) (Int32.le_trans (by decide) b1) b2
  have c0 : 1 ≤ bb := by
    rcases Nat.eq_zero_or_pos bb with z | z
    · subst z; rw [c2] at b1; exact absurd b1 (by decide)
    · exact z
  have hB : ∀ p, p ∈ brn M np → BP M p ∧ p < 24 := fun p hp => by
    have := brn_lt M np p hp
    exact ⟨hI.2.2.2.1 p this, by omega⟩
  have hv : ∀ p, p ∈ brn M np → M 4 p + M 5 p = nI (ndN M p) ∧ ndN M p ≤ 160 ∧ 30 ≤ ndN M p ∧ dueM M p = nI (dN M p) ∧ dN M p ≤ 60 := fun p hp => ⟨(ndN_ok (hB p hp).1).1, (ndN_ok (hB p hp).1).2.1, (ndN_ok (hB p hp).1).2.2, (dN_ok (hB p hp).1 hI.2.2.1).1, (dN_ok (hB p hp).1 hI.2.2.1).2⟩
  have hinc := brn_inc M np
  generalize brn M np = B at *
  generalize hn : B.length = n at *
  have hmem : ∀ k, k < n → B.getD k 0 ∈ B := fun k hk => by
    rw [List.getD_eq_getElem?_getD, List.getElem?_eq_getElem (by omega)]
    exact List.getElem_mem _
  have hget : ∀ k (hk : k < B.length), B.getD k 0 = B[k] := fun k hk => by rw [List.getD_eq_getElem?_getD, List.getElem?_eq_getElem hk]; rfl
  have hfi : ∀ i j, i < j → j < n → B.getD i 0 < B.getD j 0 := fun i j h1 h2 => by
    rw [hget i (by omega), hget j (by omega)]
    exact List.pairwise_iff_getElem.mp hinc i j (by omega) (by omega) h1
  have hinj : ∀ i j, i < n → j < n → B.getD i 0 = B.getD j 0 → i = j := fun i j h1 h2 e => by
    rcases Nat.lt_trichotomy i j with y | y | y
    · have := hfi i j y h2; omega
    · exact y
    · have := hfi j i y h1; omega
  have hnod : Z.Nodup := hperm.nodup_iff.mpr (List.Pairwise.imp (fun h => Nat.ne_of_lt h) hinc)
  have p12 := pow12 h12
  have key : ∀ h g, h < 2 ^ n → mt (fun k => B.getD k 0) n h g → (cbB M (fun k => B.getD k 0) h n b = true ↔ fz (ndN M) (fun p => (rmI M b p).toInt) g Z 0) := fun h g hh hg => cb_fz c2 c0 c1 n2 n1 hn h12 (by omega) hv hperm hsrt hg
  have wv : ∀ h g, mt (fun k => B.getD k 0) n h g → psum (fun k => if h.testBit k = true then wtN M (B.getD k 0) else 0) n = wz (wtN M) g Z ∧ por (fun k => if h.testBit k = true then 2 ^ B.getD k 0 else 0) n = bz g Z := fun h g hg => by
    unfold wz bz
    rw [lsum_perm hperm, lor_perm hperm]
    have e1 := psum_list (fun p => if g p = true then wtN M p else 0) B n (by omega)
    have e2 := por_list (fun p => if g p = true then 2 ^ p else 0) B n (by omega)
    rw [List.take_of_length_le (by omega)] at e1 e2
    rw [← e1, ← e2]
    refine ⟨psum_congr n (fun k hk => ?_), por_congr n (fun k hk => ?_)⟩
    · have hgk : g (B.getD k 0) = h.testBit k := hg k hk
      simp only [hgk]
    · have hgk : g (B.getD k 0) = h.testBit k := hg k hk
      simp only [hgk]
  have hc0 : cbB M (fun k => B.getD k 0) 0 n b = true := by
    refine List.all_eq_true.mpr (fun y hy => ?_)
    unfold okY
    simp only [Bool.or_eq_true, decide_eq_true_eq]
    left
    exact (smH_iff (by omega) n h12).mpr (fun k hk z => by rw [Nat.zero_testBit] at z; exact absurd z.1 (by decide))
  obtain ⟨h, a1, a2, a3, a4⟩ := bs_spec (M := M) (f := fun k => B.getD k 0) (n := n) (b := b) (x := x) (W := fun h => psum (fun k => if h.testBit k = true then wtN M (B.getD k 0) else 0) n) (V := fun h => por (fun k => if h.testBit k = true then 2 ^ B.getD k 0 else 0) n) (fun h hh => ⟨sumH_nat (by omega) n h12 (fun k hk => (wtN_ok (hB _ (hmem k hk)).1).1), by
    have := psum_le (F := fun k => if h.testBit k = true then wtN M (B.getD k 0) else 0) (m := 300) n (fun k hk => by
      show (if h.testBit k = true then wtN M (B.getD k 0) else 0) ≤ 300
      split
      · exact (wtN_ok (hB _ (hmem k hk)).1).2
      · omega)
    omega⟩) (fun h hh => cvH_nat (by omega) n h12 (fun k hk => (hB _ (hmem k hk)).2)) (fun h h' e1 e2 => por_mono hfi n (Nat.le_refl _) h h' (by rw [Nat.mod_eq_of_lt (by omega), Nat.mod_eq_of_lt e2]; exact e1)) hc0 (2 ^ n) (Nat.two_pow_pos n) (Nat.le_refl _)
  rw [a3]
  obtain ⟨s1, s2, s3⟩ := src_spec (nd := ndN M) (wt := wtN M) (r := fun p => (rmI M b p).toInt) Z 0 0 0 (0, 0) hnod
  generalize src (ndN M) (wtN M) (fun p => (rmI M b p).toInt) Z 0 0 0 (0, 0) = res at *
  have g1 : ge2 res (psum (fun k => if h.testBit k = true then wtN M (B.getD k 0) else 0) n, por (fun k => if h.testBit k = true then 2 ^ B.getD k 0 else 0) n) := by
    obtain ⟨g, hg⟩ := mt_of (f := fun k => B.getD k 0) hinj h
    have := s2 g ((key h g a1 hg).mp a2)
    rw [(wv h g hg).1, (wv h g hg).2]
    rw [Nat.zero_add, Nat.zero_or] at this
    exact this
  have g2 : ge2 (psum (fun k => if h.testBit k = true then wtN M (B.getD k 0) else 0) n, por (fun k => if h.testBit k = true then 2 ^ B.getD k 0 else 0) n) res := by
    rcases s3 with e | ⟨g, e1, e2⟩
    · have e0 := a4 0 (Nat.two_pow_pos n) hc0
      obtain ⟨q1, q2⟩ := wv 0 (fun _ => false) (fun k hk => (Nat.zero_testBit k).symm)
      have z1 : wz (wtN M) (fun _ => false) Z = 0 := by
        have : ∀ L : List Nat, wz (wtN M) (fun _ => false) L = 0 := fun L => by
          induction L with
          | nil => rfl
          | cons p R ih => show (if false = true then _ else 0) + wz (wtN M) (fun _ => false) R = 0; rw [ih]; rfl
        exact this Z
      have z2 : bz (fun _ => false) Z = 0 := by
        have : ∀ L : List Nat, bz (fun _ => false) L = 0 := fun L => by
          induction L with
          | nil => rfl
          | cons p R ih => show (if false = true then _ else 0) ||| bz (fun _ => false) R = 0; rw [ih, Nat.or_zero]; rfl
        exact this Z
      have e0 : ge2 _ (psum (fun k => if (0 : Nat).testBit k = true then wtN M (B.getD k 0) else 0) n, por (fun k => if (0 : Nat).testBit k = true then 2 ^ B.getD k 0 else 0) n) := e0
      rw [q1, q2, z1, z2] at e0
      rw [e]
      exact e0
    · have hl := enc_lt (fun k => B.getD k 0) g n
      have hm := enc_mt (fun k => B.getD k 0) g n
      have e0 := a4 _ hl ((key _ g hl hm).mpr e1)
      have e0 : ge2 _ (psum (fun k => if (enc (fun k => B.getD k 0) g n).testBit k = true then wtN M (B.getD k 0) else 0) n, por (fun k => if (enc (fun k => B.getD k 0) g n).testBit k = true then 2 ^ B.getD k 0 else 0) n) := e0
      rw [(wv _ g hm).1, (wv _ g hm).2] at e0
      rw [e2, Nat.zero_add, Nat.zero_or]
      exact e0
  have := ge2_anti g1 g2
  rw [this]
theorem c_af_saved {b : Int32} (hC : CH G M np) (hI : INV M np) (h0 : ¬ (1 ≤ b ∧ b ≤ 2000) ∨ 12 < (brn M np).length → ∀ G', CH G' M np → FrC G G' → Q (some (.int (-1))) G')
    (h1 : 1 ≤ b → b ≤ 2000 → (brn M np).length ≤ 12 → ∀ G', CH G' M np → FrC G G' → ∀ v, (∀ x, v = (bsM M (fun k => (brn M np).getD k 0) (brn M np).length b x (2 ^ (brn M np).length)).1) → Q (some (.int v)) G') : A 16 M_af_saved 0 [some (.ref 20), some (.int b)] [] G kc ks Q := by
  have hr := hC.root.1
  refine A.aload_k 0 rfl rfl rfl d_af_saved_0 ?_
  refine A.iload_k 1 rfl rfl d_af_saved_1 ?_
  refine A.callV1 s_af_199 ?_ (Nat.le_of_ble_eq_true rfl) (Nat.le_of_ble_eq_true rfl) (Nat.le_of_ble_eq_true rfl) d_af_saved_2 rfl (c_af_plan hC hI (fun a1 G1 hC1 hF1 => ?_) (fun b1 b2 b3 G1 Z hC1 hF1 hp hs h25 => ?_))
  · apply Exists.intro
    repeat first | assumption | exact up_s | refine up_e (by first | decide | omega) ?_
  · dsimp only [psh]
    refine A.if_eq0 18 (by decide) d_af_saved_5 ?_
    refine A.iconst (v := -1) rfl d_af_saved_18 ?_
    refine A.iret d_af_saved_19 rfl ?_
    first | exact h0 a1 G1 hC1 hF1 | exact h1 b1 b2 b3 G1 hC1 hF1 _ (fun x => by rw [bricks_eq hI b1 b2 b3 hp hs])
  · dsimp only [psh]
    refine A.if_eq1 d_af_saved_5 (tgt := 18) (by decide) ?_
    have hr1 := hC1.root.1
    unfold bpO at h25
    refine A.aload_k 0 rfl rfl rfl d_af_saved_8 ?_
    apply A.getfield f_af_36 d_af_saved_9
    · repeat first | assumption | exact up_s | refine up_e (by first | decide | omega) ?_
    · rfl
    apply A.getfield f_af_202 d_af_saved_12
    · repeat first | assumption | exact up_s | refine up_e (by first | decide | omega) ?_
    · rfl
    refine A.goto 19 (by decide) d_af_saved_15 ?_
    refine A.iret d_af_saved_19 rfl ?_
    first | exact h0 a1 G1 hC1 hF1 | exact h1 b1 b2 b3 G1 hC1 hF1 _ (fun x => by rw [bricks_eq hI b1 b2 b3 hp hs])
theorem c_af_heap {b : Int32} (hC : CH G M np) (hI : INV M np) (h0 : ¬ (1 ≤ b ∧ b ≤ 2000) ∨ 12 < (brn M np).length → ∀ G', CH G' M np → FrC G G' → Q (some (.int (-1))) G')
    (h1 : 1 ≤ b → b ≤ 2000 → (brn M np).length ≤ 12 → ∀ G', CH G' M np → FrC G G' → ∀ v, (∀ x, v = (bsM M (fun k => (brn M np).getD k 0) (brn M np).length b x (2 ^ (brn M np).length)).2) → Q (some (.int v)) G') : A 16 M_af_heap 0 [some (.ref 20), some (.int b)] [] G kc ks Q := by
  have hr := hC.root.1
  refine A.aload_k 0 rfl rfl rfl d_af_heap_0 ?_
  refine A.iload_k 1 rfl rfl d_af_heap_1 ?_
  refine A.callV1 s_af_199 ?_ (Nat.le_of_ble_eq_true rfl) (Nat.le_of_ble_eq_true rfl) (Nat.le_of_ble_eq_true rfl) d_af_heap_2 rfl (c_af_plan hC hI (fun a1 G1 hC1 hF1 => ?_) (fun b1 b2 b3 G1 Z hC1 hF1 hp hs h25 => ?_))
  · apply Exists.intro
    repeat first | assumption | exact up_s | refine up_e (by first | decide | omega) ?_
  · dsimp only [psh]
    refine A.if_eq0 18 (by decide) d_af_heap_5 ?_
    refine A.iconst (v := -1) rfl d_af_heap_18 ?_
    refine A.iret d_af_heap_19 rfl ?_
    first | exact h0 a1 G1 hC1 hF1 | exact h1 b1 b2 b3 G1 hC1 hF1 _ (fun x => by rw [bricks_eq hI b1 b2 b3 hp hs])
  · dsimp only [psh]
    refine A.if_eq1 d_af_heap_5 (tgt := 18) (by decide) ?_
    have hr1 := hC1.root.1
    unfold bpO at h25
    refine A.aload_k 0 rfl rfl rfl d_af_heap_8 ?_
    apply A.getfield f_af_36 d_af_heap_9
    · repeat first | assumption | exact up_s | refine up_e (by first | decide | omega) ?_
    · rfl
    apply A.getfield f_af_205 d_af_heap_12
    · repeat first | assumption | exact up_s | refine up_e (by first | decide | omega) ?_
    · rfl
    refine A.goto 19 (by decide) d_af_heap_15 ?_
    refine A.iret d_af_heap_19 rfl ?_
    first | exact h0 a1 G1 hC1 hF1 | exact h1 b1 b2 b3 G1 hC1 hF1 _ (fun x => by rw [bricks_eq hI b1 b2 b3 hp hs])
end SAVED
