/-! the component: the plan of bricks -/
section PLAN
variable {M S : MS} {G : AHp} {kc ks np : Nat} {Q : Option Value → AHp → Prop}
theorem CH.brk {G' : AHp} (h : CH G M np) (hw : WF M np) (hG : ∀ q, (q < 25 ∨ 34 < q ∨ (25 < q ∧ q < 30)) → G' q = G q) (hb : BrC G') : CH G' M np :=
  ⟨⟨(hG _ (by omega)).trans h.root.1, (hG _ (by omega)).trans h.root.2⟩, h.list.fr (fun a x => hG a (by omega)), h.str.fr (fun a x => hG a (by omega)) rfl rfl, h.sh.fr (fun a x => hG a (by omega)), hb, h.ct.fr (fun a x => hG a (by omega)) rfl rfl rfl rfl, h.sv.fr (fun a x => hG a (by omega)), fun p hp => (h.pl hp).fr (hw.zle p) (fun a x y => hG a (by omega)) (fun _ _ => rfl) (fun _ _ _ _ _ => rfl) rfl, h.fre.fr (fun a x => hG a (by omega)) hw.2.1⟩
theorem BrZ.c {b : Int32} {Z : List Nat} (h : BrZ G M b Z) : BrC G := by
  obtain ⟨fn, fd, fw, fr, ft, x, y, z25, z30, z31, z32, z33, z34, zk⟩ := h
  refine ⟨⟨_, _, _, z25⟩, fun k hk => ?_, ⟨_, z34⟩⟩
  rcases (show k = 0 ∨ k = 1 ∨ k = 2 ∨ k = 3 by omega) with rfl | rfl | rfl | rfl
  · exact ⟨_, z30⟩
  · exact ⟨_, z31⟩
  · exact ⟨_, z32⟩
  · exact ⟨_, z33⟩
def srt (r : Nat → Int32) (Z : List Nat) : Prop := Z.Pairwise (fun x y => r x ≤ r y)
theorem ins_perm {Z B : List Nat} {p a : Nat} (h : Z.Perm B) : (Z.take a ++ p :: Z.drop a).Perm (B ++ [p]) := by
  refine List.perm_middle.trans ?_
  rw [List.take_append_drop]
  exact (h.cons p).trans (List.perm_append_singleton p B).symm
theorem ins_srt {r : Nat → Int32} {Z : List Nat} {p a : Nat} (h : srt r Z) (ha : a ≤ Z.length) (h1 : 0 < a → r (Z.getD (a - 1) 0) ≤ r p) (h2 : ∀ k, a ≤ k → k < Z.length → r p < r (Z.getD k 0)) : srt r (Z.take a ++ p :: Z.drop a) := by
  have hd : ∀ y, y ∈ Z.drop a → r p ≤ r y := by
    intro y hy
    obtain ⟨k, k1, k2⟩ := List.mem_iff_getElem.mp hy
    rw [List.length_drop] at k1
    rw [List.getElem_drop] at k2
    have := h2 (a + k) (by omega) (by omega)
    rw [List.getD_eq_getElem?_getD, List.getElem?_eq_getElem (by omega)] at this
    have this : r p < r (Z[a + k]'(by omega)) := this
    rw [k2] at this
    exact Int32.le_of_lt this
  have ht : ∀ x, x ∈ Z.take a → r x ≤ r p := by
    intro x hx
    obtain ⟨k, k1, k2⟩ := List.mem_iff_getElem.mp hx
    rw [List.length_take] at k1
    rw [List.getElem_take] at k2
    have e := h1 (by omega)
    rw [List.getD_eq_getElem?_getD, List.getElem?_eq_getElem (by omega)] at e
    have e : r (Z[a - 1]'(by omega)) ≤ r p := e
    by_cases c : k = a - 1
    · subst c; rw [k2] at e; exact e
    · have := (List.pairwise_iff_getElem.mp h) k (a - 1) (by omega) (by omega) (by omega)
      rw [k2] at this
      exact Int32.le_trans this e
  refine List.pairwise_append.mpr ⟨h.sublist (List.take_sublist a Z), List.pairwise_cons.mpr ⟨hd, h.sublist (List.drop_sublist a Z)⟩, fun x hx y hy => ?_⟩
  rcases List.mem_cons.mp hy with e | e
  · subst e; exact ht x hx
  · exact Int32.le_trans (ht x hx) (hd y e)
def ndN (M : MS) (p : Nat) : Nat := hN (M 4 p + M 5 p)
def wtN (M : MS) (p : Nat) : Nat := hN (wthM M p)
theorem ndN_ok {p : Nat} (h : BP M p) : M 4 p + M 5 p = nI (ndN M p) ∧ ndN M p ≤ 160 ∧ 30 ≤ ndN M p := by
  obtain ⟨f, f1, f2, f3⟩ := h.2.1
  obtain ⟨d, d1, d2, d3⟩ := h.2.2.1
  unfold ndN
  rw [f3, d3, nI_add, hN_nI (by omega)]
  exact ⟨rfl, by omega, by omega⟩
theorem wtN_ok {p : Nat} (h : BP M p) : wthM M p = nI (wtN M p) ∧ wtN M p ≤ 300 := by
  obtain ⟨w, w1, w2⟩ := wthM_nat h
  unfold wtN
  rw [w2, hN_nI (by omega)]
  exact ⟨rfl, w1⟩
theorem wsum_le {wt : Nat → Nat} : ∀ Z : List Nat, (∀ p, p ∈ Z → wt p ≤ 300) → wsum wt Z ≤ 300 * Z.length
  | [], _ => by unfold wsum; omega
  | p :: R, h => by
    unfold wsum
    have := wsum_le R (fun q hq => h q (List.mem_cons_of_mem _ hq))
    have := h p (List.mem_cons_self ..)
    rw [List.length_cons]
    omega
theorem c_af_plan {b : Int32} (hC : CH G M np) (hI : INV M np) (h0 : ¬ (1 ≤ b ∧ b ≤ 2000) ∨ 12 < (brn M np).length → ∀ G', CH G' M np → FrC G G' → Q (some (.int 0)) G')
    (h1 : 1 ≤ b → b ≤ 2000 → (brn M np).length ≤ 12 → ∀ G' Z, CH G' M np → FrC G G' → Z.Perm (brn M np) → srt (rmI M b) Z → G' 25 = some (bpO Z.length (src (ndN M) (wtN M) (fun p => (rmI M b p).toInt) Z 0 0 0 (0, 0))) → Q (some (.int 1)) G') : A 15 M_af_planBricks 0 [some (.ref 20), some (.int b), none, none, none] [] G kc ks Q := by
  have hw := hI.1
  have h24 := hw.2.1
  have hcp := cpN_le h24
  have hr := hC.root.1
  have tail : ∀ (G1 : AHp) (Z : List Nat) (v2 v3 v4 : Option Value), 1 ≤ b → b ≤ 2000 → CH G1 M np → FrC G G1 → BrZ G1 M b Z → Z.Perm (brn M np) → srt (rmI M b) Z → Z.length ≤ 12 → A 15 M_af_planBricks 104 [some (.ref 20), some (.int b), v2, v3, v4] [] G1 kc ks Q := by
    intro G1 Z v2 v3 v4 b1 b2 hC1 hF1 hZ hperm hsrt hlen
    have hr1 := hC1.root.1
    have hbc := hZ.c
    obtain ⟨fn, fd, fw, fr, ft, x, y, z25, z30, z31, z32, z33, z34, zk⟩ := hZ
    have hB : ∀ p, p ∈ Z → BP M p ∧ p < 24 := fun p hp => by
      have := brn_lt M np p (hperm.mem_iff.mp hp)
      exact ⟨hI.2.2.2.1 p this, by omega⟩
    have hmem : ∀ k, k < Z.length → Z.getD k 0 ∈ Z := fun k hk => by
      rw [List.getD_eq_getElem?_getD, List.getElem?_eq_getElem hk]
      exact List.getElem_mem hk
    have hv : ∀ p, p ∈ Z → p < 24 ∧ ndN M p ≤ 160 ∧ wtN M p ≤ 300 := fun p hp => ⟨(hB p hp).2, (ndN_ok (hB p hp).1).2.1, (wtN_ok (hB p hp).1).2⟩
    have hws := wsum_le Z (fun p hp => (hv p hp).2.2)
    have zk' : ∀ k, k < Z.length → fn k = nI (Z.getD k 0) ∧ fd k = nI (ndN M (Z.getD k 0)) ∧ fw k = nI (wtN M (Z.getD k 0)) ∧ fr k = rmI M b (Z.getD k 0) := fun k hk => by
      obtain ⟨a1, a2, a3, a4⟩ := zk k hk
      have hb := (hB _ (hmem k hk)).1
      exact ⟨a1, a2.trans (ndN_ok hb).1, a3.trans (wtN_ok hb).1, a4⟩
    refine A.aload_k 0 rfl rfl rfl d_af_planBricks_104 ?_
    apply A.getfield f_af_36 d_af_planBricks_105
    · repeat first | assumption | exact up_s | refine up_e (by first | decide | omega) ?_
    · rfl
    refine A.callV0 s_af_295 ?_ (Nat.le_of_ble_eq_true rfl) (Nat.le_of_ble_eq_true rfl) (Nat.le_of_ble_eq_true rfl) d_af_planBricks_108 rfl (c_bp_choose z25 z30 z31 z32 z33 z34 zk' hlen hv (by omega) (fun ft' => ?_))
    · apply Exists.intro
      repeat first | assumption | exact up_s | refine up_e (by first | decide | omega) ?_
    dsimp only [psh]
    refine A.iconst (v := 1) rfl d_af_planBricks_111 ?_
    refine A.zret d_af_planBricks_112 rfl (Or.inr rfl) ?_
    refine h1 b1 b2 (by rw [← hperm.length_eq]; exact hlen) _ Z (hC1.brk hw (fun q hq => (up_n (by omega)).trans (up_n (by omega))) ⟨⟨_, _, _, up_s⟩, fun k hk => ?_, ⟨ft', up_e (by decide) up_s⟩⟩) ((hF1.up (by decide) (by decide)).up (by decide) (by decide)) hperm hsrt up_s
    rw [up_n (by omega), up_n (by omega)]
    exact hbc.2.1 k hk
  have loop : 1 ≤ b → b ≤ 2000 → ∀ (n i : Nat) (G1 : AHp) (Z : List Nat) (v3 v4 : Option Value), i ≤ np → np < i + n → CH G1 M np → FrC G G1 → BrZ G1 M b Z → Z.Perm (brn M i) → srt (rmI M b) Z → Z.length ≤ 12 → A 15 M_af_planBricks 22 [some (.ref 20), some (.int b), some (.int (nI i)), v3, v4] [] G1 kc ks Q := by
    intro b1 b2 n
    induction n with
    | zero => intro i G1 Z v3 v4 y1 y2; omega
    | succ n ih =>
      intro i G1 Z v3 v4 y1 y2 hC1 hF1 hZ hperm hsrt hlen
      have hr1 := hC1.root.1
      obtain ⟨m, hl1⟩ := hC1.list.1
      have eL := hperm.length_eq
      obtain ⟨x5, y5, z5, h25⟩ := hC1.br.1
      have ih := ih (i + 1)
      rw [brn_s] at ih
      have room : ∀ d, d = dueM M i → b * (d - M 0 0 + 1) = rmI M b i := fun d hd => by subst hd; rfl
      refine A.iload_k 2 rfl rfl d_af_planBricks_22 ?_
      refine A.aload_k 0 rfl rfl rfl d_af_planBricks_23 ?_
      apply A.getfield f_af_16 d_af_planBricks_24
      · repeat first | assumption | exact up_s | refine up_e (by first | decide | omega) ?_
      · rfl
      refine A.callV0 s_af_89 ?_ (Nat.le_of_ble_eq_true rfl) (Nat.le_of_ble_eq_true rfl) (Nat.le_of_ble_eq_true rfl) d_af_planBricks_27 rfl (c_al_size (by repeat first | assumption | exact up_s | refine up_e (by first | decide | omega) ?_) ?_)
      · apply Exists.intro
        repeat first | assumption | exact up_s | refine up_e (by first | decide | omega) ?_
      dsimp only [psh]
      refine A.icmp_ge 104 (by decide) d_af_planBricks_30 (fun c30 => ?_) (fun c30 => ?_)
      · obtain rfl : i = np := by
          have := (nI_leI (by omega) (by omega)).mp c30
          omega
        exact tail G1 Z _ _ _ b1 b2 hC1 hF1 hZ hperm hsrt hlen
      · have hlt : i < np := Nat.lt_of_not_le (fun z => c30 (nI_le z (by omega)))
        obtain ⟨f, f1, f2⟩ := hC1.list.2.1 (by omega)
        have hpl : G1 (1000 + 16 * i) = some (plO M np i) := (hC1.pl hlt).1
        unfold plO at hpl
        refine A.aload_k 0 rfl rfl rfl d_af_planBricks_33 ?_
        apply A.getfield f_af_16 d_af_planBricks_34
        · repeat first | assumption | exact up_s | refine up_e (by first | decide | omega) ?_
        · rfl
        refine A.iload_k 2 rfl rfl d_af_planBricks_37 ?_
        refine A.callV1 s_af_179 ?_ (Nat.le_of_ble_eq_true rfl) (Nat.le_of_ble_eq_true rfl) (Nat.le_of_ble_eq_true rfl) d_af_planBricks_38 rfl (c_al_get hl1 f1 hlt (by omega) (f2 i hlt) ?_)
        · apply Exists.intro
          repeat first | assumption | exact up_s | refine up_e (by first | decide | omega) ?_
        dsimp only [psh]
        refine A.cast1 (ci := 5) d_af_planBricks_41 cl_af_93 rfl ?_ ?_
        · apply Exists.intro
          repeat first | assumption | exact up_s | refine up_e (by first | decide | omega) ?_
        refine A.astore_k 3 rfl (Nat.le_of_ble_eq_true rfl) rfl rfl d_af_planBricks_44 ?_
        dsimp only [List.set]
        refine A.aload_k 3 rfl rfl rfl d_af_planBricks_45 ?_
        apply A.getfield f_af_110 d_af_planBricks_46
        · repeat first | assumption | exact up_s | refine up_e (by first | decide | omega) ?_
        · rfl
        refine A.if_ne 98 (by decide) d_af_planBricks_49 (fun c49 => ?_) (fun c49 => ?_)
        · refine A.iincp (n := 2) rfl (Nat.le_of_ble_eq_true rfl) d_af_planBricks_98 ?_
          dsimp only [List.set]
          refine A.goto 22 (by decide) d_af_planBricks_101 ?_
          rw [nI_1]
          first | (rw [if_neg c49] at ih; exact ih G1 Z _ _ (by omega) (by omega) hC1 hF1 hZ hperm hsrt hlen) | (rw [if_pos c49] at ih; exact ih G2 _ _ _ (by omega) (by omega) (hC1.brk hw (fun q hq => k6 q (by omega)) k5.c) (fun q hq => (k6 q (by omega)).trans (hF1 q hq)) k5 (ins_perm hperm) (ins_srt hsrt k2 k3 k4) (by rw [List.length_append, List.length_cons, List.length_take, List.length_drop]; omega))
        · refine A.aload_k 3 rfl rfl rfl d_af_planBricks_52 ?_
          apply A.getfield f_af_196 d_af_planBricks_53
          · repeat first | assumption | exact up_s | refine up_e (by first | decide | omega) ?_
          · rfl
          refine A.iconst (v := -1) rfl d_af_planBricks_56 ?_
          refine A.icmp_ne 67 (by decide) d_af_planBricks_57 (fun c57 => ?_) (fun c57 => ?_)
          · refine A.aload_k 3 rfl rfl rfl d_af_planBricks_67 ?_
            apply A.getfield f_af_196 d_af_planBricks_68
            · repeat first | assumption | exact up_s | refine up_e (by first | decide | omega) ?_
            · rfl
            refine A.istore (Nat.le_of_ble_eq_true rfl) rfl d_af_planBricks_71 ?_
            dsimp only [List.set]
            refine A.aload_k 0 rfl rfl rfl d_af_planBricks_73 ?_
            apply A.getfield f_af_36 d_af_planBricks_74
            · repeat first | assumption | exact up_s | refine up_e (by first | decide | omega) ?_
            · rfl
            refine A.iload_k 2 rfl rfl d_af_planBricks_77 ?_
            refine A.aload_k 3 rfl rfl rfl d_af_planBricks_78 ?_
            refine A.iload_k 1 rfl rfl d_af_planBricks_79 ?_
            refine A.iload rfl d_af_planBricks_80 ?_
            refine A.aload_k 0 rfl rfl rfl d_af_planBricks_82 ?_
            apply A.getfield f_af_54 d_af_planBricks_83
            · repeat first | assumption | exact up_s | refine up_e (by first | decide | omega) ?_
            · rfl
            refine A.isub d_af_planBricks_86 ?_
            refine A.iconst (v := 1) rfl d_af_planBricks_87 ?_
            refine A.iadd d_af_planBricks_88 ?_
            refine A.imul d_af_planBricks_89 ?_
            rw [room _ (by unfold dueM; first | rw [if_pos c57] | rw [if_neg c57])]
            refine A.callV3 s_af_292 ?_ (Nat.le_of_ble_eq_true rfl) (Nat.le_of_ble_eq_true rfl) (Nat.le_of_ble_eq_true rfl) d_af_planBricks_90 rfl (c_bp_add hZ (by omega) hlen hpl (fun k0 => ?_) (fun k1 a G2 k2 k3 k4 k5 k6 => ?_))
            · apply Exists.intro
              repeat first | assumption | exact up_s | refine up_e (by first | decide | omega) ?_
            · dsimp only [psh]
              refine A.if_ne0 d_af_planBricks_93 (tgt := 98) (by decide) ?_
              refine A.iconst (v := 0) rfl d_af_planBricks_96 ?_
              refine A.zret d_af_planBricks_97 rfl (Or.inl rfl) ?_
              refine h0 (Or.inr ?_) G1 hC1 hF1
              have := brn_mono M (i + 1) (np - (i + 1))
              rw [show i + 1 + (np - (i + 1)) = np by omega, brn_s, if_pos c49, List.length_append] at this
              have : (brn M i).length + 1 ≤ (brn M np).length := this
              omega
            · dsimp only [psh]
              refine A.if_ne1 98 (by decide) d_af_planBricks_93 ?_
              refine A.iincp (n := 2) rfl (Nat.le_of_ble_eq_true rfl) d_af_planBricks_98 ?_
              dsimp only [List.set]
              refine A.goto 22 (by decide) d_af_planBricks_101 ?_
              rw [nI_1]
              first | (rw [if_neg c49] at ih; exact ih G1 Z _ _ (by omega) (by omega) hC1 hF1 hZ hperm hsrt hlen) | (rw [if_pos c49] at ih; exact ih G2 _ _ _ (by omega) (by omega) (hC1.brk hw (fun q hq => k6 q (by omega)) k5.c) (fun q hq => (k6 q (by omega)).trans (hF1 q hq)) k5 (ins_perm hperm) (ins_srt hsrt k2 k3 k4) (by rw [List.length_append, List.length_cons, List.length_take, List.length_drop]; omega))
          · refine A.aload_k 0 rfl rfl rfl d_af_planBricks_60 ?_
            apply A.getfield f_af_64 d_af_planBricks_61
            · repeat first | assumption | exact up_s | refine up_e (by first | decide | omega) ?_
            · rfl
            refine A.goto 71 (by decide) d_af_planBricks_64 ?_
            refine A.istore (Nat.le_of_ble_eq_true rfl) rfl d_af_planBricks_71 ?_
            dsimp only [List.set]
            refine A.aload_k 0 rfl rfl rfl d_af_planBricks_73 ?_
            apply A.getfield f_af_36 d_af_planBricks_74
            · repeat first | assumption | exact up_s | refine up_e (by first | decide | omega) ?_
            · rfl
            refine A.iload_k 2 rfl rfl d_af_planBricks_77 ?_
            refine A.aload_k 3 rfl rfl rfl d_af_planBricks_78 ?_
            refine A.iload_k 1 rfl rfl d_af_planBricks_79 ?_
            refine A.iload rfl d_af_planBricks_80 ?_
            refine A.aload_k 0 rfl rfl rfl d_af_planBricks_82 ?_
            apply A.getfield f_af_54 d_af_planBricks_83
            · repeat first | assumption | exact up_s | refine up_e (by first | decide | omega) ?_
            · rfl
            refine A.isub d_af_planBricks_86 ?_
            refine A.iconst (v := 1) rfl d_af_planBricks_87 ?_
            refine A.iadd d_af_planBricks_88 ?_
            refine A.imul d_af_planBricks_89 ?_
            rw [room _ (by unfold dueM; first | rw [if_pos c57] | rw [if_neg c57])]
            refine A.callV3 s_af_292 ?_ (Nat.le_of_ble_eq_true rfl) (Nat.le_of_ble_eq_true rfl) (Nat.le_of_ble_eq_true rfl) d_af_planBricks_90 rfl (c_bp_add hZ (by omega) hlen hpl (fun k0 => ?_) (fun k1 a G2 k2 k3 k4 k5 k6 => ?_))
            · apply Exists.intro
              repeat first | assumption | exact up_s | refine up_e (by first | decide | omega) ?_
            · dsimp only [psh]
              refine A.if_ne0 d_af_planBricks_93 (tgt := 98) (by decide) ?_
              refine A.iconst (v := 0) rfl d_af_planBricks_96 ?_
              refine A.zret d_af_planBricks_97 rfl (Or.inl rfl) ?_
              refine h0 (Or.inr ?_) G1 hC1 hF1
              have := brn_mono M (i + 1) (np - (i + 1))
              rw [show i + 1 + (np - (i + 1)) = np by omega, brn_s, if_pos c49, List.length_append] at this
              have : (brn M i).length + 1 ≤ (brn M np).length := this
              omega
            · dsimp only [psh]
              refine A.if_ne1 98 (by decide) d_af_planBricks_93 ?_
              refine A.iincp (n := 2) rfl (Nat.le_of_ble_eq_true rfl) d_af_planBricks_98 ?_
              dsimp only [List.set]
              refine A.goto 22 (by decide) d_af_planBricks_101 ?_
              rw [nI_1]
              first | (rw [if_neg c49] at ih; exact ih G1 Z _ _ (by omega) (by omega) hC1 hF1 hZ hperm hsrt hlen) | (rw [if_pos c49] at ih; exact ih G2 _ _ _ (by omega) (by omega) (hC1.brk hw (fun q hq => k6 q (by omega)) k5.c) (fun q hq => (k6 q (by omega)).trans (hF1 q hq)) k5 (ins_perm hperm) (ins_srt hsrt k2 k3 k4) (by rw [List.length_append, List.length_cons, List.length_take, List.length_drop]; omega))
  have clr : ∀ Q' : Option Value → AHp → Prop, ∀ x y z : Int32, G 25 = some (oB 2 [.ref 30, .ref 31, .ref 32, .ref 33, .ref 34, .int x, .int y, .int z]) → Q' none (up G 25 (oB 2 [.ref 30, .ref 31, .ref 32, .ref 33, .ref 34, .int 0, .int y, .int z])) → A 0 M_bp_clear 0 [some (.ref 25)] [] G 0 0 Q' := by
    intro Q' x y z h25 h
    refine A.aload_k 0 rfl rfl rfl d_bp_clear_0 ?_
    refine A.iconst (v := 0) rfl d_bp_clear_1 ?_
    apply A.putfield p_bp_27 d_bp_clear_2
    · repeat first | assumption | exact up_s | refine up_e (by first | decide | omega) ?_
    · exact (Nat.le_of_ble_eq_true rfl)
    · rfl
    dsimp only [List.set]
    refine A.vret d_bp_clear_5 rfl ?_
    exact h
  obtain ⟨⟨x5, y5, z5, h25⟩, hb2, ft, h34⟩ := hC.br
  obtain ⟨fn, h30⟩ := hb2 0 (by omega)
  obtain ⟨fd, h31⟩ := hb2 1 (by omega)
  obtain ⟨fw, h32⟩ := hb2 2 (by omega)
  obtain ⟨fr, h33⟩ := hb2 3 (by omega)
  have hZ0 : BrZ (up G 25 (oB 2 [.ref 30, .ref 31, .ref 32, .ref 33, .ref 34, .int 0, .int y5, .int z5])) M b [] := ⟨fn, fd, fw, fr, ft, y5, z5, up_s, up_e (by decide) h30, up_e (by decide) h31, up_e (by decide) h32, up_e (by decide) h33, up_e (by decide) h34, fun k hk => absurd hk (Nat.not_lt_zero k)⟩
  refine A.iload_k 1 rfl rfl d_af_planBricks_0 ?_
  refine A.iconst (v := 1) rfl d_af_planBricks_1 ?_
  refine A.sipush (v := 2000) rfl d_af_planBricks_2 ?_
  refine A.callS3 s_af_76 (Nat.le_of_ble_eq_true rfl) (Nat.le_of_ble_eq_true rfl) (Nat.le_of_ble_eq_true rfl) d_af_planBricks_5 rfl (c_af_within (fun i1 i2 => ?_) (fun i3 => ?_))
  · dsimp only [psh]
    refine A.if_ne1 13 (by decide) d_af_planBricks_8 ?_
    refine A.aload_k 0 rfl rfl rfl d_af_planBricks_13 ?_
    apply A.getfield f_af_36 d_af_planBricks_14
    · repeat first | assumption | exact up_s | refine up_e (by first | decide | omega) ?_
    · rfl
    refine A.callV0 s_af_289 ?_ (Nat.le_of_ble_eq_true rfl) (Nat.le_of_ble_eq_true rfl) (Nat.le_of_ble_eq_true rfl) d_af_planBricks_17 rfl (clr _ x5 y5 z5 h25 ?_)
    · apply Exists.intro
      repeat first | assumption | exact up_s | refine up_e (by first | decide | omega) ?_
    dsimp only [psh]
    refine A.iconst (v := 0) rfl d_af_planBricks_20 ?_
    refine A.istore_k 2 rfl (Nat.le_of_ble_eq_true rfl) rfl d_af_planBricks_21 ?_
    dsimp only [List.set]
    exact loop i1 i2 (np + 1) 0 _ [] none none (by omega) (by omega) (hC.brk hw (fun q hq => up_n (by omega)) hZ0.c) (FrC.rf.up (by decide) (by decide)) hZ0 (List.Perm.refl _) List.Pairwise.nil (by show 0 ≤ 12; omega)
  · dsimp only [psh]
    refine A.if_ne0 d_af_planBricks_8 (tgt := 13) (by decide) ?_
    refine A.iconst (v := 0) rfl d_af_planBricks_11 ?_
    refine A.zret d_af_planBricks_12 rfl (Or.inl rfl) ?_
    exact h0 (Or.inl i3) G hC FrC.rf
end PLAN
