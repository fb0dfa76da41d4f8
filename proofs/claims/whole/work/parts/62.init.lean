/-! the component: a new court -/
section INIT
variable {M S : MS} {G : AHp} {kc ks np : Nat} {Q : Option Value → AHp → Prop}
theorem c_sh_init (h24 : G 24 = some (oB 6 [.null, .null])) (f28 : G 28 = none) (f29 : G 29 = none) (h : ∀ G', ShC G' → (∀ a, a ≠ 24 → a ≠ 28 → a ≠ 29 → G' a = G a) → Q none G') : A 1 M_sh_init 0 [some (.ref 24)] [] G 2 8 Q := by
  refine A.aload_k 0 rfl rfl rfl d_sh_init_0 ?_
  refine A.objInit d_sh_init_1 o_sh_3 (Nat.le_of_ble_eq_true rfl) (Nat.le_of_ble_eq_true rfl) ?_
  refine A.aload_k 0 rfl rfl rfl d_sh_init_4 ?_
  refine A.iconst (v := 4) rfl d_sh_init_5 ?_
  refine A.newI (a := 28) (n := 4) d_sh_init_6 (by decide) (by decide) (by first | decide | omega) (by repeat first | assumption | refine up_e (by first | decide | omega) ?_) (kc' := 1) (ks' := 4) (Nat.le_of_ble_eq_true rfl) (Nat.le_of_ble_eq_true rfl) ac_int ?_
  apply A.putfin q_sh_9 rfl d_sh_init_8
  · repeat first | assumption | exact up_s | refine up_e (by first | decide | omega) ?_
  · exact (Nat.le_of_ble_eq_true rfl)
  · rfl
  dsimp only [List.set]
  refine A.aload_k 0 rfl rfl rfl d_sh_init_11 ?_
  refine A.iconst (v := 4) rfl d_sh_init_12 ?_
  refine A.newL (a := 29) (n := 4) d_sh_init_13 (by decide) (by decide) (by first | decide | omega) (by repeat first | assumption | refine up_e (by first | decide | omega) ?_) (kc' := 0) (ks' := 0) (Nat.le_of_ble_eq_true rfl) (Nat.le_of_ble_eq_true rfl) ac_long ?_
  apply A.putfin q_sh_15 rfl d_sh_init_15
  · repeat first | assumption | exact up_s | refine up_e (by first | decide | omega) ?_
  · exact (Nat.le_of_ble_eq_true rfl)
  · rfl
  dsimp only [List.set]
  refine A.vret d_sh_init_18 rfl ?_
  refine h _ ⟨up_s, ⟨fun _ => 0, ?_⟩, ⟨fun _ => 0, ?_⟩⟩ (fun a x y z => ?_)
  · repeat first | exact up_s | refine up_e (by decide) ?_
  · repeat first | exact up_s | refine up_e (by decide) ?_
  · rw [up_n (by omega), up_n (by omega), up_n (by omega), up_n (by omega)]
theorem c_bp_init (h25 : G 25 = some (oB 2 [.null, .null, .null, .null, .null, .int 0, .int 0, .int 0])) (f : ∀ k, k < 5 → G (30 + k) = none) (h : ∀ G', BrC G' → (∀ a, a ≠ 25 → (a < 30 ∨ 34 < a) → G' a = G a) → Q none G') : A 1 M_bp_init 0 [some (.ref 25)] [] G 5 61 Q := by
  have f0 : G 30 = none := f 0 (by omega)
  have f1 : G 31 = none := f 1 (by omega)
  have f2 : G 32 = none := f 2 (by omega)
  have f3 : G 33 = none := f 3 (by omega)
  have f4 : G 34 = none := f 4 (by omega)
  refine A.aload_k 0 rfl rfl rfl d_bp_init_0 ?_
  refine A.objInit d_bp_init_1 o_bp_3 (Nat.le_of_ble_eq_true rfl) (Nat.le_of_ble_eq_true rfl) ?_
  refine A.aload_k 0 rfl rfl rfl d_bp_init_4 ?_
  refine A.bipush (v := 12) rfl d_bp_init_5 ?_
  refine A.newI (a := 30) (n := 12) d_bp_init_7 (by decide) (by decide) (by first | decide | omega) (by repeat first | assumption | refine up_e (by first | decide | omega) ?_) (kc' := 4) (ks' := 49) (Nat.le_of_ble_eq_true rfl) (Nat.le_of_ble_eq_true rfl) ac_int ?_
  apply A.putfin q_bp_9 rfl d_bp_init_9
  · repeat first | assumption | exact up_s | refine up_e (by first | decide | omega) ?_
  · exact (Nat.le_of_ble_eq_true rfl)
  · rfl
  dsimp only [List.set]
  refine A.aload_k 0 rfl rfl rfl d_bp_init_12 ?_
  refine A.bipush (v := 12) rfl d_bp_init_13 ?_
  refine A.newI (a := 31) (n := 12) d_bp_init_15 (by decide) (by decide) (by first | decide | omega) (by repeat first | assumption | refine up_e (by first | decide | omega) ?_) (kc' := 3) (ks' := 37) (Nat.le_of_ble_eq_true rfl) (Nat.le_of_ble_eq_true rfl) ac_int ?_
  apply A.putfin q_bp_15 rfl d_bp_init_17
  · repeat first | assumption | exact up_s | refine up_e (by first | decide | omega) ?_
  · exact (Nat.le_of_ble_eq_true rfl)
  · rfl
  dsimp only [List.set]
  refine A.aload_k 0 rfl rfl rfl d_bp_init_20 ?_
  refine A.bipush (v := 12) rfl d_bp_init_21 ?_
  refine A.newI (a := 32) (n := 12) d_bp_init_23 (by decide) (by decide) (by first | decide | omega) (by repeat first | assumption | refine up_e (by first | decide | omega) ?_) (kc' := 2) (ks' := 25) (Nat.le_of_ble_eq_true rfl) (Nat.le_of_ble_eq_true rfl) ac_int ?_
  apply A.putfin q_bp_18 rfl d_bp_init_25
  · repeat first | assumption | exact up_s | refine up_e (by first | decide | omega) ?_
  · exact (Nat.le_of_ble_eq_true rfl)
  · rfl
  dsimp only [List.set]
  refine A.aload_k 0 rfl rfl rfl d_bp_init_28 ?_
  refine A.bipush (v := 12) rfl d_bp_init_29 ?_
  refine A.newI (a := 33) (n := 12) d_bp_init_31 (by decide) (by decide) (by first | decide | omega) (by repeat first | assumption | refine up_e (by first | decide | omega) ?_) (kc' := 1) (ks' := 13) (Nat.le_of_ble_eq_true rfl) (Nat.le_of_ble_eq_true rfl) ac_int ?_
  apply A.putfin q_bp_21 rfl d_bp_init_33
  · repeat first | assumption | exact up_s | refine up_e (by first | decide | omega) ?_
  · exact (Nat.le_of_ble_eq_true rfl)
  · rfl
  dsimp only [List.set]
  refine A.aload_k 0 rfl rfl rfl d_bp_init_36 ?_
  refine A.bipush (v := 13) rfl d_bp_init_37 ?_
  refine A.newI (a := 34) (n := 13) d_bp_init_39 (by decide) (by decide) (by first | decide | omega) (by repeat first | assumption | refine up_e (by first | decide | omega) ?_) (kc' := 0) (ks' := 0) (Nat.le_of_ble_eq_true rfl) (Nat.le_of_ble_eq_true rfl) ac_int ?_
  apply A.putfin q_bp_24 rfl d_bp_init_41
  · repeat first | assumption | exact up_s | refine up_e (by first | decide | omega) ?_
  · exact (Nat.le_of_ble_eq_true rfl)
  · rfl
  dsimp only [List.set]
  refine A.aload_k 0 rfl rfl rfl d_bp_init_44 ?_
  refine A.iconst (v := 0) rfl d_bp_init_45 ?_
  apply A.putfield p_bp_27 d_bp_init_46
  · repeat first | assumption | exact up_s | refine up_e (by first | decide | omega) ?_
  · exact (Nat.le_of_ble_eq_true rfl)
  · rfl
  dsimp only [List.set]
  refine A.aload_k 0 rfl rfl rfl d_bp_init_49 ?_
  refine A.iconst (v := 0) rfl d_bp_init_50 ?_
  apply A.putfield p_bp_31 d_bp_init_51
  · repeat first | assumption | exact up_s | refine up_e (by first | decide | omega) ?_
  · exact (Nat.le_of_ble_eq_true rfl)
  · rfl
  dsimp only [List.set]
  refine A.aload_k 0 rfl rfl rfl d_bp_init_54 ?_
  refine A.iconst (v := 0) rfl d_bp_init_55 ?_
  apply A.putfield p_bp_34 d_bp_init_56
  · repeat first | assumption | exact up_s | refine up_e (by first | decide | omega) ?_
  · exact (Nat.le_of_ble_eq_true rfl)
  · rfl
  dsimp only [List.set]
  refine A.vret d_bp_init_59 rfl ?_
  refine h _ ⟨⟨0, 0, 0, up_s⟩, fun k hk => ?_, ⟨fun _ => 0, ?_⟩⟩ (fun a x y => ?_)
  · rcases (show k = 0 ∨ k = 1 ∨ k = 2 ∨ k = 3 by omega) with rfl | rfl | rfl | rfl <;> refine ⟨fun _ => 0, ?_⟩ <;> repeat first | exact up_s | refine up_e (by decide) ?_
  · repeat first | exact up_s | refine up_e (by decide) ?_
  · repeat first | rfl | refine up_e (by omega) ?_
theorem c_ct_init (h26 : G 26 = some (oB 4 [.null, .int 0, .int 0, .int 0, .int 0])) (f : G 35 = none) (h : ∀ G', G' 26 = some (oB 4 [.ref 35, .int 0, .int 0, .int 0, .int 0]) → G' 35 = some (aI 20 (fun _ => 0)) → (∀ a, a ≠ 26 → a ≠ 35 → G' a = G a) → Q none G') : A 1 M_ct_init 0 [some (.ref 26)] [] G 1 20 Q := by
  refine A.aload_k 0 rfl rfl rfl d_ct_init_0 ?_
  refine A.objInit d_ct_init_1 o_ct_3 (Nat.le_of_ble_eq_true rfl) (Nat.le_of_ble_eq_true rfl) ?_
  refine A.aload_k 0 rfl rfl rfl d_ct_init_4 ?_
  refine A.bipush (v := 20) rfl d_ct_init_5 ?_
  refine A.newI (a := 35) (n := 20) d_ct_init_7 (by decide) (by decide) (by first | decide | omega) (by repeat first | assumption | refine up_e (by first | decide | omega) ?_) (kc' := 0) (ks' := 0) (Nat.le_of_ble_eq_true rfl) (Nat.le_of_ble_eq_true rfl) ac_int ?_
  apply A.putfin q_ct_9 rfl d_ct_init_9
  · repeat first | assumption | exact up_s | refine up_e (by first | decide | omega) ?_
  · exact (Nat.le_of_ble_eq_true rfl)
  · rfl
  dsimp only [List.set]
  refine A.aload_k 0 rfl rfl rfl d_ct_init_12 ?_
  refine A.iconst (v := 0) rfl d_ct_init_13 ?_
  apply A.putfield p_ct_15 d_ct_init_14
  · repeat first | assumption | exact up_s | refine up_e (by first | decide | omega) ?_
  · exact (Nat.le_of_ble_eq_true rfl)
  · rfl
  dsimp only [List.set]
  refine A.aload_k 0 rfl rfl rfl d_ct_init_17 ?_
  refine A.iconst (v := 0) rfl d_ct_init_18 ?_
  apply A.putfield p_ct_19 d_ct_init_19
  · repeat first | assumption | exact up_s | refine up_e (by first | decide | omega) ?_
  · exact (Nat.le_of_ble_eq_true rfl)
  · rfl
  dsimp only [List.set]
  refine A.aload_k 0 rfl rfl rfl d_ct_init_22 ?_
  refine A.iconst (v := 0) rfl d_ct_init_23 ?_
  apply A.putfield p_ct_22 d_ct_init_24
  · repeat first | assumption | exact up_s | refine up_e (by first | decide | omega) ?_
  · exact (Nat.le_of_ble_eq_true rfl)
  · rfl
  dsimp only [List.set]
  refine A.aload_k 0 rfl rfl rfl d_ct_init_27 ?_
  refine A.iconst (v := 0) rfl d_ct_init_28 ?_
  apply A.putfield p_ct_25 d_ct_init_29
  · repeat first | assumption | exact up_s | refine up_e (by first | decide | omega) ?_
  · exact (Nat.le_of_ble_eq_true rfl)
  · rfl
  dsimp only [List.set]
  refine A.vret d_ct_init_32 rfl ?_
  refine h _ up_s ?_ (fun a x y => ?_)
  · repeat first | exact up_s | refine up_e (by decide) ?_
  · repeat first | rfl | refine up_e (by omega) ?_
theorem c_sv_init (h27 : G 27 = some (oB 8 [.null])) (f : G 36 = none) (fr : ∀ k, k < 8 → G (60 + k) = none) (h : ∀ G', SvC G' → (∀ a, a ≠ 27 → a ≠ 36 → (a < 60 ∨ 67 < a) → G' a = G a) → Q none G') : A 1 M_sv_init 0 [some (.ref 27)] [] G 9 2416 Q := by
  have hx : ∀ a, upN G 60 8 (aI 301 (fun _ => 0)) a = if 60 ≤ a ∧ a < 60 + 8 then some (aI 301 (fun _ => 0)) else G a := fun _ => rfl
  refine A.aload_k 0 rfl rfl rfl d_sv_init_0 ?_
  refine A.objInit d_sv_init_1 o_sv_3 (Nat.le_of_ble_eq_true rfl) (Nat.le_of_ble_eq_true rfl) ?_
  refine A.aload_k 0 rfl rfl rfl d_sv_init_4 ?_
  refine A.bipush (v := 8) rfl d_sv_init_5 ?_
  refine A.sipush (v := 301) rfl d_sv_init_7 ?_
  refine A.mna (a := 36) (B := 60) (n := 8) (k := 301) d_sv_init_10 cl_sv_9 ac_int (by decide) (by decide) (by omega) (by omega) (by omega) f (by omega) (fun x x1 x2 => by have := fr (x - 60) (by omega); rw [show 60 + (x - 60) = x by omega] at this; exact this) (by omega) (kc' := 0) (ks' := 0) (by omega) (by omega) ?_
  apply A.putfin q_sv_11 rfl d_sv_init_14
  · rw [up_n (by decide), hx, if_neg (by omega)]; exact h27
  · exact (Nat.le_of_ble_eq_true rfl)
  · rfl
  dsimp only [List.set]
  refine A.vret d_sv_init_17 rfl ?_
  refine h _ ⟨up_s, ⟨_, up_e (by decide) up_s, fun i hi => if_pos hi⟩, fun i hi => ⟨fun _ => 0, ?_⟩⟩ (fun a x y z => ?_)
  · rw [up_n (by omega), up_n (by omega), hx, if_pos (by omega)]
  · rw [up_n x, up_n y, hx, if_neg (by omega)]
/-- a new street -/
def StN (G : AHp) (q : Nat) : Prop := G (40 + q) = some (oB 7 [.ref (46 + q), .ref (52 + q)]) ∧ G (46 + q) = some (oB 10 [.int 0, .ref 1, .int 0]) ∧ ∃ g, G (52 + q) = some (aI 7 g) ∧ ∀ k, k < 7 → g k = -1
theorem c_sr_init {q : Nat} (hq : q < 6) (hs : G (40 + q) = some (oB 7 [.null, .null])) (f1 : G (46 + q) = none) (f2 : G (52 + q) = none) (h : ∀ G', StN G' q → (∀ a, a ≠ 40 + q → a ≠ 46 + q → a ≠ 52 + q → G' a = G a) → Q none G') : A 4 M_sr_init 0 [some (.ref (40 + q)), none] [] G 2 10 Q := by
  have loop : ∀ (n i : Nat) (G1 : AHp) (g : Nat → Int32), i + n = 7 → G1 (40 + q) = some (oB 7 [.ref (46 + q), .ref (52 + q)]) → G1 (46 + q) = some (oB 10 [.int 0, .ref 1, .int 0]) → G1 (52 + q) = some (aI 7 g) → (∀ k, k < i → g k = -1) → (∀ a, a ≠ 40 + q → a ≠ 46 + q → a ≠ 52 + q → G1 a = G a) → A 4 M_sr_init 25 [some (.ref (40 + q)), some (.int (nI i))] [] G1 0 0 Q := by
    intro n
    induction n with
    | zero =>
      intro i G1 g hi h1 h2 h3 h4 h5
      obtain rfl : i = 7 := by omega
      refine A.iload_k 1 rfl rfl d_sr_init_25 ?_
      refine A.aload_k 0 rfl rfl rfl d_sr_init_26 ?_
      apply A.getfield f_sr_18 d_sr_init_27
      · repeat first | assumption | exact up_s | refine up_e (by first | decide | omega) ?_
      · rfl
      apply A.alen d_sr_init_30
      · repeat first | assumption | exact up_s | refine up_e (by first | decide | omega) ?_
      · rfl
      refine A.icmp_ge 47 (by decide) d_sr_init_31 (fun c31 => ?_) (fun c31 => ?_)
      · refine A.vret d_sr_init_47 rfl ?_
        exact h G1 ⟨h1, h2, g, h3, h4⟩ h5
      · exact absurd (show Int32.ofNat 7 ≤ nI 7 by decide) c31
    | succ n ih =>
      intro i G1 g hi h1 h2 h3 h4 h5
      refine A.iload_k 1 rfl rfl d_sr_init_25 ?_
      refine A.aload_k 0 rfl rfl rfl d_sr_init_26 ?_
      apply A.getfield f_sr_18 d_sr_init_27
      · repeat first | assumption | exact up_s | refine up_e (by first | decide | omega) ?_
      · rfl
      apply A.alen d_sr_init_30
      · repeat first | assumption | exact up_s | refine up_e (by first | decide | omega) ?_
      · rfl
      refine A.icmp_ge 47 (by decide) d_sr_init_31 (fun c31 => ?_) (fun c31 => ?_)
      · exact absurd ((nI_leI (a := 7) (by omega) (by omega)).mp c31) (by omega)
      refine A.aload_k 0 rfl rfl rfl d_sr_init_34 ?_
      apply A.getfield f_sr_18 d_sr_init_35
      · repeat first | assumption | exact up_s | refine up_e (by first | decide | omega) ?_
      · rfl
      refine A.iload_k 1 rfl rfl d_sr_init_38 ?_
      refine A.iconst (v := -1) rfl d_sr_init_39 ?_
      apply A.iastore (j := i) d_sr_init_40
      · repeat first | assumption | exact up_s | refine up_e (by first | decide | omega) ?_
      · first | decide | omega
      · exact ixn (by omega)
      · omega
      refine A.iincp (n := 1) rfl (Nat.le_of_ble_eq_true rfl) d_sr_init_41 ?_
      dsimp only [List.set]
      refine A.goto 25 (by decide) d_sr_init_44 ?_
      rw [nI_1]
      refine ih (i + 1) _ (upd g i (-1)) (by omega) (up_e (by omega) h1) (up_e (by omega) h2) up_s (fun k hk => ?_) (fun a x y z => (up_n z).trans (h5 a x y z))
      by_cases e : k = i
      · subst e; exact upd_eq
      · rw [upd_ne e]; exact h4 k (by omega)
  refine A.aload_k 0 rfl rfl rfl d_sr_init_0 ?_
  refine A.objInit d_sr_init_1 o_sr_3 (Nat.le_of_ble_eq_true rfl) (Nat.le_of_ble_eq_true rfl) ?_
  refine A.aload_k 0 rfl rfl rfl d_sr_init_4 ?_
  refine A.new (a := 46 + q) n_sr_9 d_sr_init_5 (by first | decide | omega) (by repeat first | assumption | refine up_e (by first | decide | omega) ?_) (kc' := 1) (ks' := 7) (Nat.le_of_ble_eq_true rfl) (Nat.le_of_ble_eq_true rfl) ?_
  refine A.dup rfl d_sr_init_8 ?_
  refine A.callIa0 s_sr_11 (Nat.le_of_ble_eq_true rfl) (Nat.le_of_ble_eq_true rfl) (Nat.le_of_ble_eq_true rfl) d_sr_init_9 (kc1 := 0) (ks1 := 0) (kc2 := 1) (ks2 := 7) (Nat.le_of_ble_eq_true rfl) (Nat.le_of_ble_eq_true rfl) rfl (c_al_init up_s ?_)
  dsimp only [psh]
  rw [up_up]
  apply A.putfin q_sr_12 rfl d_sr_init_12
  · repeat first | assumption | exact up_s | refine up_e (by omega) ?_
  · exact (Nat.le_of_ble_eq_true rfl)
  · rfl
  dsimp only [List.set]
  refine A.aload_k 0 rfl rfl rfl d_sr_init_15 ?_
  refine A.bipush (v := 7) rfl d_sr_init_16 ?_
  refine A.newI (a := 52 + q) (n := 7) d_sr_init_18 (by decide) (by decide) (by first | decide | omega) (by repeat first | assumption | refine up_e (by first | decide | omega) ?_) (kc' := 0) (ks' := 0) (Nat.le_of_ble_eq_true rfl) (Nat.le_of_ble_eq_true rfl) ac_int ?_
  apply A.putfin q_sr_18 rfl d_sr_init_20
  · repeat first | assumption | exact up_s | refine up_e (by omega) ?_
  · exact (Nat.le_of_ble_eq_true rfl)
  · rfl
  dsimp only [List.set]
  refine A.iconst (v := 0) rfl d_sr_init_23 ?_
  refine A.istore_k 1 rfl (Nat.le_of_ble_eq_true rfl) rfl d_sr_init_24 ?_
  dsimp only [List.set]
  refine loop 7 0 _ (fun _ => 0) (by omega) up_s ?_ ?_ (fun k hk => absurd hk (by omega)) (fun a x y z => ?_)
  · repeat first | exact up_s | refine up_e (by omega) ?_
  · repeat first | exact up_s | refine up_e (by omega) ?_
  · repeat first | rfl | refine up_e (by omega) ?_
def LI (Gb G : AHp) (i : Nat) : Prop := (∃ f, G 23 = some (aR (.object "AfterFire$Street") 6 f) ∧ ∀ q, q < i → f q = some (40 + q)) ∧ (∀ q, q < i → StN G q) ∧ (∀ a, a ≠ 23 → (a < 40 ∨ 57 < a) → G a = Gb a) ∧ ∀ q, i ≤ q → q < 6 → G (40 + q) = none ∧ G (46 + q) = none ∧ G (52 + q) = none
theorem c_af_step {i : Nat} {Gb : AHp} {fs : List Value} {v0 v1 : Value} (hi : i < 6) (hr : Gb 20 = some (oB 0 (v0 :: v1 :: .ref 23 :: fs))) (hL : LI Gb G i) (h : ∀ G', LI Gb G' (i + 1) → A 5 M_af_init 104 [some (.ref 20), some (.int (nI (i + 1)))] [] G' kc ks Q) : A 5 M_af_init 104 [some (.ref 20), some (.int (nI i))] [] G (kc + 3) (ks + 12) Q := by
  obtain ⟨⟨f, l1, l2⟩, l3, l4, l5⟩ := hL
  obtain ⟨e1, e2, e3⟩ := l5 i (Nat.le_refl _) hi
  have hr1 : G 20 = _ := (l4 20 (by decide) (by omega)).trans hr
  refine A.iload_k 1 rfl rfl d_af_init_104 ?_
  refine A.bipush (v := 6) rfl d_af_init_105 ?_
  refine A.icmp_ge 129 (by decide) d_af_init_107 (fun c107 => ?_) (fun c107 => ?_)
  · exact absurd ((nI_leI (a := 6) (by omega) (by omega)).mp c107) (by omega)
  refine A.aload_k 0 rfl rfl rfl d_af_init_110 ?_
  apply A.getfield f_af_22 d_af_init_111
  · repeat first | assumption | exact up_s | refine up_e (by first | decide | omega) ?_
  · rfl
  refine A.iload_k 1 rfl rfl d_af_init_114 ?_
  refine A.new (a := 40 + i) n_af_20 d_af_init_115 (by first | decide | omega) (by repeat first | assumption | refine up_e (by first | decide | omega) ?_) (kc' := (kc + 2)) (ks' := (ks + 10)) (by omega) (by omega) ?_
  refine A.dup rfl d_af_init_118 ?_
  refine A.callIa0 s_af_70 (Nat.le_of_ble_eq_true rfl) (Nat.le_of_ble_eq_true rfl) (Nat.le_of_ble_eq_true rfl) d_af_init_119 (kc1 := 2) (ks1 := 10) (kc2 := (kc + 0)) (ks2 := (ks + 0)) (by omega) (by omega) rfl (c_sr_init hi up_s ((up_n (by omega)).trans e2) ((up_n (by omega)).trans e3) (fun G1 g1 g2 => ?_))
  dsimp only [psh]
  apply A.aastore (j := i) d_af_init_122
  · first | exact (g2 23 (by omega) (by omega) (by omega)).trans ((up_n (by omega)).trans l1) | exact g1.1
  · first | exact (g2 23 (by omega) (by omega) (by omega)).trans ((up_n (by omega)).trans l1) | exact g1.1
  · rfl
  · exact Or.inl rfl
  · exact ixn (by omega)
  · exact hi
  refine A.iincp (n := 1) rfl (Nat.le_of_ble_eq_true rfl) d_af_init_123 ?_
  dsimp only [List.set]
  refine A.goto 104 (by decide) d_af_init_126 ?_
  rw [nI_1]
  refine A.room (Nat.le_refl _) (Nat.le_refl _) (h _ ⟨⟨_, up_s, fun q hq => ?_⟩, fun q hq => ?_, fun a x y => ?_, fun q q1 q2 => ?_⟩)
  · by_cases e : q = i
    · subst e; exact if_pos rfl
    · exact (if_neg e).trans (l2 q (by omega))
  · by_cases e : q = i
    · subst e
      exact ⟨(up_n (by omega)).trans g1.1, (up_n (by omega)).trans g1.2.1, by rw [up_n (by omega)]; exact g1.2.2⟩
    · obtain ⟨s1, s2, s3⟩ := l3 q (by omega)
      have fr : ∀ b, (b = 40 + q ∨ b = 46 + q ∨ b = 52 + q) → up G1 23 (aR (.object "AfterFire$Street") 6 (va_up f i (some (40 + i)))) b = G b := fun b hb => (up_n (by omega)).trans ((g2 b (by omega) (by omega) (by omega)).trans (up_n (by omega)))
      exact ⟨(fr _ (by omega)).trans s1, (fr _ (by omega)).trans s2, by rw [fr _ (by omega)]; exact s3⟩
  · exact (up_n x).trans ((g2 a (by omega) (by omega) (by omega)).trans ((up_n (by omega)).trans (l4 a x y)))
  · have fr : ∀ b, (b = 40 + q ∨ b = 46 + q ∨ b = 52 + q) → up G1 23 (aR (.object "AfterFire$Street") 6 (va_up f i (some (40 + i)))) b = G b := fun b hb => (up_n (by omega)).trans ((g2 b (by omega) (by omega) (by omega)).trans (up_n (by omega)))
    rw [fr _ (by omega), fr _ (by omega), fr _ (by omega)]
    exact l5 q (by omega) q2
theorem c_af_init (hO : G 20 = some (oB 0 [.null, .null, .null, .null, .null, .null, .null, .int 0, .int 0, .int 0, .int 0, .int 0])) (hfree : ∀ a, 16 ≤ a → a ≠ 20 → G a = none) (h : ∀ G', CH G' M0 0 → FrC G G' → Q none G') : A 5 M_af_init 0 [some (.ref 20), none] [] G 50 3000 Q := by
  have fin : ∀ Gb G1 : AHp, Gb 20 = some (rtO M0) → Gb 21 = some (aI 20 (M0 1)) → Gb 22 = some (oB 10 [.int 0, .ref 1, .int 0]) → ShC Gb → BrC Gb → SvC Gb → Gb 26 = some (oB 4 [.ref 35, .int 0, .int 0, .int 0, .int 0]) → Gb 35 = some (aI 20 (fun _ => 0)) → (∀ a, (a < 20 ∨ 67 < a) → Gb a = G a) → LI Gb G1 6 → CH G1 M0 0 ∧ FrC G G1 := by
    intro Gb G1 b20 b21 b22 bsh bbr bsv b26 b35 bf hL
    obtain ⟨l1, l3, l4, l5⟩ := hL
    refine ⟨⟨⟨(l4 _ (by omega) (by omega)).trans b20, (l4 _ (by omega) (by omega)).trans b21⟩, ⟨⟨0, (l4 _ (by omega) (by omega)).trans b22⟩, fun z => absurd z (by omega), fun a x y z => (l4 a (by omega) (by omega)).trans ((bf a (by omega)).trans (hfree a (by omega) (by omega)))⟩, ⟨l1, fun q hq => ?_⟩, bsh.fr (fun a x => l4 a (by omega) (by omega)), bbr.fr (fun a x => l4 a (by omega) (by omega)), ⟨0, 0, (l4 _ (by omega) (by omega)).trans b26, ⟨_, (l4 _ (by omega) (by omega)).trans b35, fun w _ hw => absurd hw (by omega)⟩, rfl, by omega, Nat.le_refl _, fun w hw => absurd hw (by omega), fun w x y => absurd y (by omega)⟩, bsv.fr (fun a x => l4 a (by omega) (by omega)), fun p hp => absurd hp (by omega), ⟨fun a x y => (l4 a (by omega) (by omega)).trans ((bf a (by omega)).trans (hfree a (by omega) (by omega))), 2000, Nat.le_refl _, fun a x => (l4 a (by omega) (by omega)).trans ((bf a (by omega)).trans (hfree a (by omega) (by omega)))⟩⟩, fun a ha => (l4 a (by omega) (by omega)).trans (bf a (by omega))⟩
    obtain ⟨s1, s2, g, s3, s4⟩ := l3 q hq
    refine ⟨s1, ⟨g, s3, fun k hk => ?_⟩, ⟨⟨0, s2⟩, fun z => absurd z (Nat.lt_irrefl 0), fun _ => (l4 _ (by omega) (by omega)).trans ((bf _ (by omega)).trans (hfree _ (by omega) (by omega)))⟩⟩
    rw [s4 k hk]
    show -1 = stkF 48 (8 * q + k)
    have : ∀ m j, j < m → stkF m j = -1 := by
      intro m
      induction m with
      | zero => intro j hj; omega
      | succ m ih =>
        intro j hj
        show upd (stkF m) m (-1) j = -1
        by_cases e : j = m
        · subst e; exact upd_eq
        · rw [upd_ne e]; exact ih j (by omega)
    exact (this 48 _ (by omega)).symm
  have last : ∀ Gb G1 : AHp, Gb 20 = some (rtO M0) → (CH G1 M0 0 ∧ FrC G G1) → LI Gb G1 6 → A 5 M_af_init 104 [some (.ref 20), some (.int (nI 6))] [] G1 0 0 Q := by
    intro Gb G1 b20 hc hL
    refine A.iload_k 1 rfl rfl d_af_init_104 ?_
    refine A.bipush (v := 6) rfl d_af_init_105 ?_
    refine A.icmp_ge 129 (by decide) d_af_init_107 (fun c107 => ?_) (fun c107 => ?_)
    · refine A.vret d_af_init_129 rfl ?_
      exact h _ hc.1 hc.2
    · exact absurd (by decide) c107
  have base : ∀ Gb : AHp, Gb 20 = some (rtO M0) → Gb 21 = some (aI 20 (M0 1)) → Gb 22 = some (oB 10 [.int 0, .ref 1, .int 0]) → ShC Gb → BrC Gb → SvC Gb → Gb 26 = some (oB 4 [.ref 35, .int 0, .int 0, .int 0, .int 0]) → Gb 35 = some (aI 20 (fun _ => 0)) → (∀ a, (a < 20 ∨ 67 < a) → Gb a = G a) → Gb 23 = some (aR (.object "AfterFire$Street") 6 (fun _ => none)) → (∀ a, 40 ≤ a → a ≤ 57 → Gb a = none) → A 5 M_af_init 104 [some (.ref 20), some (.int (nI 0))] [] Gb 18 72 Q := by
    intro Gb b20 b21 b22 bsh bbr bsv b26 b35 bf b23 bfree
    have L0 : LI Gb Gb 0 := ⟨⟨_, b23, fun q hq => absurd hq (by omega)⟩, fun q hq => absurd hq (by omega), fun a _ _ => rfl, fun q _ hq => ⟨bfree _ (by omega) (by omega), bfree _ (by omega) (by omega), bfree _ (by omega) (by omega)⟩⟩
    refine c_af_step (kc := 15) (ks := 60) (by omega) b20 L0 (fun G1 L1 => ?_)
    refine c_af_step (kc := 12) (ks := 48) (by omega) b20 L1 (fun G2 L2 => ?_)
    refine c_af_step (kc := 9) (ks := 36) (by omega) b20 L2 (fun G3 L3 => ?_)
    refine c_af_step (kc := 6) (ks := 24) (by omega) b20 L3 (fun G4 L4 => ?_)
    refine c_af_step (kc := 3) (ks := 12) (by omega) b20 L4 (fun G5 L5 => ?_)
    refine c_af_step (kc := 0) (ks := 0) (by omega) b20 L5 (fun G6 L6 => ?_)
    exact last Gb G6 b20 (fin Gb G6 b20 b21 b22 bsh bbr bsv b26 b35 bf L6) L6
  refine A.aload_k 0 rfl rfl rfl d_af_init_0 ?_
  refine A.objInit d_af_init_1 o_af_1 (Nat.le_of_ble_eq_true rfl) (Nat.le_of_ble_eq_true rfl) ?_
  refine A.aload_k 0 rfl rfl rfl d_af_init_4 ?_
  refine A.bipush (v := 20) rfl d_af_init_5 ?_
  refine A.newI (a := 21) (n := 20) d_af_init_7 (by decide) (by decide) (by first | decide | omega) (by repeat first | exact hfree _ (by omega) (by omega) | refine up_e (by omega) ?_) (kc' := 49) (ks' := 2980) (Nat.le_of_ble_eq_true rfl) (Nat.le_of_ble_eq_true rfl) ac_int ?_
  apply A.putfin q_af_9 rfl d_af_init_9
  · repeat first | assumption | exact up_s | refine up_e (by decide) ?_
  · exact (Nat.le_of_ble_eq_true rfl)
  · rfl
  dsimp only [List.set]
  refine A.aload_k 0 rfl rfl rfl d_af_init_12 ?_
  refine A.new (a := 22) n_af_13 d_af_init_13 (by first | decide | omega) (by repeat first | exact hfree _ (by omega) (by omega) | refine up_e (by omega) ?_) (kc' := 48) (ks' := 2977) (Nat.le_of_ble_eq_true rfl) (Nat.le_of_ble_eq_true rfl) ?_
  refine A.dup rfl d_af_init_16 ?_
  refine A.callIa0 s_af_15 (Nat.le_of_ble_eq_true rfl) (Nat.le_of_ble_eq_true rfl) (Nat.le_of_ble_eq_true rfl) d_af_init_17 (kc1 := 0) (ks1 := 0) (kc2 := 48) (ks2 := 2977) (Nat.le_of_ble_eq_true rfl) (Nat.le_of_ble_eq_true rfl) rfl (c_al_init up_s ?_)
  dsimp only [psh]
  apply A.putfin q_af_16 rfl d_af_init_20
  · repeat first | assumption | exact up_s | refine up_e (by decide) ?_
  · exact (Nat.le_of_ble_eq_true rfl)
  · rfl
  dsimp only [List.set]
  refine A.aload_k 0 rfl rfl rfl d_af_init_23 ?_
  refine A.bipush (v := 6) rfl d_af_init_24 ?_
  refine A.anew (a := 23) (n := 6) aov_street cl_af_20 d_af_init_26 (by decide) (by decide) (by first | decide | omega) (by repeat first | exact hfree _ (by omega) (by omega) | refine up_e (by omega) ?_) (kc' := 47) (ks' := 2971) (Nat.le_of_ble_eq_true rfl) (Nat.le_of_ble_eq_true rfl) ?_
  apply A.putfin q_af_22 rfl d_af_init_29
  · repeat first | assumption | exact up_s | refine up_e (by decide) ?_
  · exact (Nat.le_of_ble_eq_true rfl)
  · rfl
  dsimp only [List.set]
  refine A.aload_k 0 rfl rfl rfl d_af_init_32 ?_
  refine A.new (a := 24) n_af_26 d_af_init_33 (by first | decide | omega) (by repeat first | exact hfree _ (by omega) (by omega) | refine up_e (by omega) ?_) (kc' := 46) (ks' := 2969) (Nat.le_of_ble_eq_true rfl) (Nat.le_of_ble_eq_true rfl) ?_
  refine A.dup rfl d_af_init_36 ?_
  refine A.callIa0 s_af_28 (Nat.le_of_ble_eq_true rfl) (Nat.le_of_ble_eq_true rfl) (Nat.le_of_ble_eq_true rfl) d_af_init_37 (kc1 := 2) (ks1 := 8) (kc2 := 44) (ks2 := 2961) (Nat.le_of_ble_eq_true rfl) (Nat.le_of_ble_eq_true rfl) rfl (c_sh_init up_s (by repeat first | exact hfree _ (by omega) (by omega) | refine up_e (by omega) ?_) (by repeat first | exact hfree _ (by omega) (by omega) | refine up_e (by omega) ?_) (fun G1 s1 s2 => ?_))
  dsimp only [psh]
  have k20 : G1 20 = _ := (s2 20 (by decide) (by decide) (by decide)).trans (up_e (by decide) up_s)
  apply A.putfin q_af_29 rfl d_af_init_40
  · repeat first | assumption | exact up_s | refine up_e (by decide) ?_
  · exact (Nat.le_of_ble_eq_true rfl)
  · rfl
  dsimp only [List.set]
  refine A.aload_k 0 rfl rfl rfl d_af_init_43 ?_
  refine A.new (a := 25) n_af_33 d_af_init_44 (by first | decide | omega) ((up_n (by decide)).trans ((s2 25 (by decide) (by decide) (by decide)).trans (by repeat first | exact hfree _ (by omega) (by omega) | refine up_e (by omega) ?_))) (kc' := 43) (ks' := 2953) (Nat.le_of_ble_eq_true rfl) (Nat.le_of_ble_eq_true rfl) ?_
  refine A.dup rfl d_af_init_47 ?_
  refine A.callIa0 s_af_35 (Nat.le_of_ble_eq_true rfl) (Nat.le_of_ble_eq_true rfl) (Nat.le_of_ble_eq_true rfl) d_af_init_48 (kc1 := 5) (ks1 := 61) (kc2 := 38) (ks2 := 2892) (Nat.le_of_ble_eq_true rfl) (Nat.le_of_ble_eq_true rfl) rfl (c_bp_init up_s (fun k hk => (up_n (by omega)).trans ((up_n (by omega)).trans ((s2 _ (by omega) (by omega) (by omega)).trans (by repeat first | exact hfree _ (by omega) (by omega) | refine up_e (by omega) ?_)))) (fun G2 b1 b2 => ?_))
  dsimp only [psh]
  have k20b : G2 20 = _ := (b2 20 (by decide) (by omega)).trans (up_e (by decide) up_s)
  apply A.putfin q_af_36 rfl d_af_init_51
  · repeat first | assumption | exact up_s | refine up_e (by decide) ?_
  · exact (Nat.le_of_ble_eq_true rfl)
  · rfl
  dsimp only [List.set]
  refine A.aload_k 0 rfl rfl rfl d_af_init_54 ?_
  refine A.new (a := 26) n_af_40 d_af_init_55 (by first | decide | omega) ((up_n (by decide)).trans ((b2 26 (by decide) (by omega)).trans ((up_n (by decide)).trans ((up_n (by decide)).trans ((s2 26 (by decide) (by decide) (by decide)).trans (by repeat first | exact hfree _ (by omega) (by omega) | refine up_e (by omega) ?_)))))) (kc' := 37) (ks' := 2887) (Nat.le_of_ble_eq_true rfl) (Nat.le_of_ble_eq_true rfl) ?_
  refine A.dup rfl d_af_init_58 ?_
  refine A.callIa0 s_af_42 (Nat.le_of_ble_eq_true rfl) (Nat.le_of_ble_eq_true rfl) (Nat.le_of_ble_eq_true rfl) d_af_init_59 (kc1 := 1) (ks1 := 20) (kc2 := 36) (ks2 := 2867) (Nat.le_of_ble_eq_true rfl) (Nat.le_of_ble_eq_true rfl) rfl (c_ct_init up_s ((up_n (by decide)).trans ((up_n (by decide)).trans ((b2 35 (by decide) (by omega)).trans ((up_n (by decide)).trans ((up_n (by decide)).trans ((s2 35 (by decide) (by decide) (by decide)).trans (by repeat first | exact hfree _ (by omega) (by omega) | refine up_e (by omega) ?_))))))) (fun G3 t1 t2 t3 => ?_))
  dsimp only [psh]
  have k20c : G3 20 = _ := (t3 20 (by decide) (by omega)).trans (up_e (by decide) up_s)
  apply A.putfin q_af_43 rfl d_af_init_62
  · repeat first | assumption | exact up_s | refine up_e (by decide) ?_
  · exact (Nat.le_of_ble_eq_true rfl)
  · rfl
  dsimp only [List.set]
  refine A.aload_k 0 rfl rfl rfl d_af_init_65 ?_
  refine A.new (a := 27) n_af_47 d_af_init_66 (by first | decide | omega) ((up_n (by decide)).trans ((t3 27 (by decide) (by decide)).trans ((up_n (by decide)).trans ((up_n (by decide)).trans ((b2 27 (by decide) (by omega)).trans ((up_n (by decide)).trans ((up_n (by decide)).trans ((s2 27 (by decide) (by decide) (by decide)).trans (by repeat first | exact hfree _ (by omega) (by omega) | refine up_e (by omega) ?_))))))))) (kc' := 35) (ks' := 2866) (Nat.le_of_ble_eq_true rfl) (Nat.le_of_ble_eq_true rfl) ?_
  refine A.dup rfl d_af_init_69 ?_
  refine A.callIa0 s_af_49 (Nat.le_of_ble_eq_true rfl) (Nat.le_of_ble_eq_true rfl) (Nat.le_of_ble_eq_true rfl) d_af_init_70 (kc1 := 9) (ks1 := 2416) (kc2 := 26) (ks2 := 450) (Nat.le_of_ble_eq_true rfl) (Nat.le_of_ble_eq_true rfl) rfl (c_sv_init up_s ((up_n (by decide)).trans ((up_n (by decide)).trans ((t3 36 (by decide) (by decide)).trans ((up_n (by decide)).trans ((up_n (by decide)).trans ((b2 36 (by decide) (by omega)).trans ((up_n (by decide)).trans ((up_n (by decide)).trans ((s2 36 (by decide) (by decide) (by decide)).trans (by repeat first | exact hfree _ (by omega) (by omega) | refine up_e (by omega) ?_)))))))))) (fun k hk => (up_n (by omega)).trans ((up_n (by omega)).trans ((t3 _ (by omega) (by omega)).trans ((up_n (by omega)).trans ((up_n (by omega)).trans ((b2 _ (by omega) (by omega)).trans ((up_n (by omega)).trans ((up_n (by omega)).trans ((s2 _ (by omega) (by omega) (by omega)).trans (by repeat first | exact hfree _ (by omega) (by omega) | refine up_e (by omega) ?_)))))))))) (fun G4 v1 v2 => ?_))
  dsimp only [psh]
  have k20d : G4 20 = _ := (v2 20 (by decide) (by decide) (by omega)).trans (up_e (by decide) up_s)
  apply A.putfin q_af_50 rfl d_af_init_73
  · repeat first | assumption | exact up_s | refine up_e (by decide) ?_
  · exact (Nat.le_of_ble_eq_true rfl)
  · rfl
  dsimp only [List.set]
  refine A.aload_k 0 rfl rfl rfl d_af_init_76 ?_
  refine A.iconst (v := 0) rfl d_af_init_77 ?_
  apply A.putfield p_af_54 d_af_init_78
  · repeat first | assumption | exact up_s | refine up_e (by decide) ?_
  · exact (Nat.le_of_ble_eq_true rfl)
  · rfl
  dsimp only [List.set]
  refine A.aload_k 0 rfl rfl rfl d_af_init_81 ?_
  refine A.iconst (v := 2) rfl d_af_init_82 ?_
  apply A.putfield p_af_58 d_af_init_83
  · repeat first | assumption | exact up_s | refine up_e (by decide) ?_
  · exact (Nat.le_of_ble_eq_true rfl)
  · rfl
  dsimp only [List.set]
  refine A.aload_k 0 rfl rfl rfl d_af_init_86 ?_
  refine A.iconst (v := 3) rfl d_af_init_87 ?_
  apply A.putfield p_af_61 d_af_init_88
  · repeat first | assumption | exact up_s | refine up_e (by decide) ?_
  · exact (Nat.le_of_ble_eq_true rfl)
  · rfl
  dsimp only [List.set]
  refine A.aload_k 0 rfl rfl rfl d_af_init_91 ?_
  refine A.bipush (v := 10) rfl d_af_init_92 ?_
  apply A.putfield p_af_64 d_af_init_94
  · repeat first | assumption | exact up_s | refine up_e (by decide) ?_
  · exact (Nat.le_of_ble_eq_true rfl)
  · rfl
  dsimp only [List.set]
  refine A.aload_k 0 rfl rfl rfl d_af_init_97 ?_
  refine A.iconst (v := 0) rfl d_af_init_98 ?_
  apply A.putfield p_af_67 d_af_init_99
  · repeat first | assumption | exact up_s | refine up_e (by decide) ?_
  · exact (Nat.le_of_ble_eq_true rfl)
  · rfl
  dsimp only [List.set]
  refine A.iconst (v := 0) rfl d_af_init_102 ?_
  refine A.istore_k 1 rfl (Nat.le_of_ble_eq_true rfl) rfl d_af_init_103 ?_
  dsimp only [List.set]
  skip
  refine A.room (kc' := 18) (ks' := 72) (by omega) (by omega) (base _ up_s ?_ ?_ ?_ ?_ ?_ ?_ ?_ ?_ ?_ ?_)
  · repeat (refine up_e (by omega) ?_)
    refine (v2 21 (by omega) (by omega) (by omega)).trans ?_
    repeat (refine up_e (by omega) ?_)
    refine (t3 21 (by omega) (by omega)).trans ?_
    repeat (refine up_e (by omega) ?_)
    refine (b2 21 (by omega) (by omega)).trans ?_
    repeat (refine up_e (by omega) ?_)
    refine (s2 21 (by omega) (by omega) (by omega)).trans ?_
    repeat (refine up_e (by omega) ?_)
    repeat first | exact up_s | refine up_e (by omega) ?_
  · repeat (refine up_e (by omega) ?_)
    refine (v2 22 (by omega) (by omega) (by omega)).trans ?_
    repeat (refine up_e (by omega) ?_)
    refine (t3 22 (by omega) (by omega)).trans ?_
    repeat (refine up_e (by omega) ?_)
    refine (b2 22 (by omega) (by omega)).trans ?_
    repeat (refine up_e (by omega) ?_)
    refine (s2 22 (by omega) (by omega) (by omega)).trans ?_
    repeat (refine up_e (by omega) ?_)
    repeat first | exact up_s | refine up_e (by omega) ?_
  · refine s1.fr (fun a x => ?_)
    repeat (refine up_e (by omega) ?_)
    refine (v2 a (by omega) (by omega) (by omega)).trans ?_
    repeat (refine up_e (by omega) ?_)
    refine (t3 a (by omega) (by omega)).trans ?_
    repeat (refine up_e (by omega) ?_)
    refine (b2 a (by omega) (by omega)).trans ?_
    repeat (refine up_e (by omega) ?_)
    rfl
  · refine b1.fr (fun a x => ?_)
    repeat (refine up_e (by omega) ?_)
    refine (v2 a (by omega) (by omega) (by omega)).trans ?_
    repeat (refine up_e (by omega) ?_)
    refine (t3 a (by omega) (by omega)).trans ?_
    repeat (refine up_e (by omega) ?_)
    rfl
  · refine v1.fr (fun a x => ?_)
    repeat (refine up_e (by omega) ?_)
    rfl
  · repeat (refine up_e (by omega) ?_)
    refine (v2 26 (by omega) (by omega) (by omega)).trans ?_
    repeat (refine up_e (by omega) ?_)
    exact t1
  · repeat (refine up_e (by omega) ?_)
    refine (v2 35 (by omega) (by omega) (by omega)).trans ?_
    repeat (refine up_e (by omega) ?_)
    exact t2
  · intro a x
    repeat (refine up_e (by omega) ?_)
    refine (v2 a (by omega) (by omega) (by omega)).trans ?_
    repeat (refine up_e (by omega) ?_)
    refine (t3 a (by omega) (by omega)).trans ?_
    repeat (refine up_e (by omega) ?_)
    refine (b2 a (by omega) (by omega)).trans ?_
    repeat (refine up_e (by omega) ?_)
    refine (s2 a (by omega) (by omega) (by omega)).trans ?_
    repeat (refine up_e (by omega) ?_)
    rfl
  · repeat (refine up_e (by omega) ?_)
    refine (v2 23 (by omega) (by omega) (by omega)).trans ?_
    repeat (refine up_e (by omega) ?_)
    refine (t3 23 (by omega) (by omega)).trans ?_
    repeat (refine up_e (by omega) ?_)
    refine (b2 23 (by omega) (by omega)).trans ?_
    repeat (refine up_e (by omega) ?_)
    refine (s2 23 (by omega) (by omega) (by omega)).trans ?_
    repeat (refine up_e (by omega) ?_)
    repeat first | exact up_s | refine up_e (by omega) ?_
  · intro a x y
    repeat (refine up_e (by omega) ?_)
    refine (v2 a (by omega) (by omega) (by omega)).trans ?_
    repeat (refine up_e (by omega) ?_)
    refine (t3 a (by omega) (by omega)).trans ?_
    repeat (refine up_e (by omega) ?_)
    refine (b2 a (by omega) (by omega)).trans ?_
    repeat (refine up_e (by omega) ?_)
    refine (s2 a (by omega) (by omega) (by omega)).trans ?_
    repeat (refine up_e (by omega) ?_)
    exact hfree a (by omega) (by omega)
end INIT
