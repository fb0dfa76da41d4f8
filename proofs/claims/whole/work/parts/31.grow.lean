/-! a list grows -/
section GROW
variable {G : AHp} {kc ks : Nat} {Q : Option Value → AHp → Prop}
theorem up_swap {a b : Nat} {x y : ACell} (h : a ≠ b) : up (up G a x) b y = up (up G b y) a x := by
  funext c
  unfold up
  by_cases e1 : c = a <;> by_cases e2 : c = b <;> simp_all
theorem c_as_newLength {c c' : Nat} {m g : Int32} (hc : c' < 1000) (h0 : 0 < c') (e : nI c + (if m < g then g else m) = nI c') (h : Q (some (.int (nI c'))) G) : A 1 M_as_newLength 0 [some (.int (nI c)), some (.int m), some (.int g), none] [] G kc ks Q := by
  refine A.iload_k 0 rfl rfl d_as_newLength_0 ?_
  refine A.iload_k 1 rfl rfl d_as_newLength_1 ?_
  refine A.iload_k 2 rfl rfl d_as_newLength_2 ?_
  refine A.max d_as_newLength_3 s_as_194 (Nat.le_of_ble_eq_true rfl) (Nat.le_of_ble_eq_true rfl) ?_
  refine A.iadd d_as_newLength_6 ?_
  rw [e]
  refine A.istore_k 3 rfl (Nat.le_of_ble_eq_true rfl) rfl d_as_newLength_7 ?_
  dsimp only [List.set]
  refine A.iconst (v := 0) rfl d_as_newLength_8 ?_
  refine A.iload_k 3 rfl rfl d_as_newLength_9 ?_
  refine A.icmp_ge 21 (by decide) d_as_newLength_10 (fun c10 => ?_) (fun c10 => ?_)
  · exact absurd c10 (Int32.not_le.mpr ((nI_ltI (a := 0) (by omega) (by omega)).mpr h0))
  refine A.iload_k 3 rfl rfl d_as_newLength_13 ?_
  refine A.ldc d_as_newLength_14 k_as_200 ?_
  refine A.icmp_gt 21 (by decide) d_as_newLength_16 (fun c16 => ?_) (fun c16 => ?_)
  · rw [Int32.lt_iff_toInt_lt, ixn (by omega)] at c16
    have : (2147483639 : Int32).toInt = 2147483639 := by decide
    omega
  refine A.iload_k 3 rfl rfl d_as_newLength_19 ?_
  refine A.iret d_as_newLength_20 rfl ?_
  exact h
theorem c_ar_copyOf2 {a e c c' : Nat} {f : Nat → Option Nat} (ha : G a = some (aO c f)) (hel : ∀ k b, k < c → f k = some b → ∃ fs, G b = some (oB 5 fs)) (he : 16 ≤ e) (ge : G e = none) (hc : c ≤ c') (hc2 : c' ≤ 40) (h : Q (some (.ref e)) (up G e (aO c' (fun k => if k < c then f k else none)))) : A 1 M_ar_copyOf2 0 [some (.ref a), some (.int (nI c')), some (.ref 3), none] [] G 1 40 Q := by
  have hae : a ≠ e := fun z => by rw [z, ge] at ha; cases ha
  refine A.aload_k 2 rfl rfl rfl d_ar_copyOf2_0 ?_
  refine A.ldcM d_ar_copyOf2_1 cl_ar_110 ?_
  refine A.acmp_ne_f (tgt := 13) (by decide) d_ar_copyOf2_3 ?_
  refine A.iload_k 1 rfl rfl d_ar_copyOf2_6 ?_
  refine A.anew (a := e) (n := c') aov_object cl_ar_2 d_ar_copyOf2_7 (ixn (by omega)) (by omega) (by first | decide | omega) (ge) (kc' := 0) (ks' := 0) (by omega) (by omega) ?_
  refine A.goto 24 (by decide) d_ar_copyOf2_10 ?_
  refine A.astore_k 3 rfl (Nat.le_of_ble_eq_true rfl) rfl rfl d_ar_copyOf2_24 ?_
  dsimp only [List.set]
  refine A.aload_k 0 rfl rfl rfl d_ar_copyOf2_25 ?_
  refine A.iconst (v := 0) rfl d_ar_copyOf2_26 ?_
  refine A.aload_k 3 rfl rfl rfl d_ar_copyOf2_27 ?_
  refine A.iconst (v := 0) rfl d_ar_copyOf2_28 ?_
  refine A.aload_k 0 rfl rfl rfl d_ar_copyOf2_29 ?_
  apply A.alen d_ar_copyOf2_30
  · exact up_e hae ha
  · rfl
  refine A.iload_k 1 rfl rfl d_ar_copyOf2_31 ?_
  refine A.min d_ar_copyOf2_32 s_ar_304 (Nat.le_of_ble_eq_true rfl) (Nat.le_of_ble_eq_true rfl) ?_
  rw [if_neg (show ¬ nI c' < Int32.ofNat c from Int32.not_lt.mpr (nI_le hc (by omega)))]
  refine A.copy (n := c) d_ar_copyOf2_35 s_ar_150 (up_e hae ha) up_s (ixn (p := c) (by omega)) (Nat.le_refl _) hc ?_ (Nat.le_of_ble_eq_true rfl) (Nat.le_of_ble_eq_true rfl) ?_
  · intro k b hk hb
    obtain ⟨fs, hb2⟩ := hel k b hk hb
    exact ⟨5, fs, _, _, _, up_e (fun z => by rw [z, ge] at hb2; cases hb2) hb2, rfl, cast_pl⟩
  refine A.aload_k 3 rfl rfl rfl d_ar_copyOf2_38 ?_
  refine A.aret d_ar_copyOf2_39 rfl (Or.inr ⟨_, rfl⟩) rfl ?_
  rw [up_up]
  exact h
theorem c_ar_copyOf {a e c c' : Nat} {f : Nat → Option Nat} (ha : G a = some (aO c f)) (hel : ∀ k b, k < c → f k = some b → ∃ fs, G b = some (oB 5 fs)) (he : 16 ≤ e) (ge : G e = none) (hc : c ≤ c') (hc2 : c' ≤ 40) (h : Q (some (.ref e)) (up G e (aO c' (fun k => if k < c then f k else none)))) : A 2 M_ar_copyOf 0 [some (.ref a), some (.int (nI c'))] [] G 1 40 Q := by
  refine A.aload_k 0 rfl rfl rfl d_ar_copyOf_0 ?_
  refine A.iload_k 1 rfl rfl d_ar_copyOf_1 ?_
  refine A.aload_k 0 rfl rfl rfl d_ar_copyOf_2 ?_
  refine A.getClass d_ar_copyOf_3 s_ar_86 ha (Nat.le_of_ble_eq_true rfl) (Nat.le_of_ble_eq_true rfl) ?_
  refine A.callSa3 s_ar_300 (Nat.le_of_ble_eq_true rfl) (Nat.le_of_ble_eq_true rfl) (Nat.le_of_ble_eq_true rfl) d_ar_copyOf_6 (kc1 := 1) (ks1 := 40) (kc2 := 0) (ks2 := 0) (Nat.le_of_ble_eq_true rfl) (Nat.le_of_ble_eq_true rfl) rfl (c_ar_copyOf2 ha hel he ge hc hc2 ?_)
  dsimp only [psh]
  refine A.aret d_ar_copyOf_9 rfl (Or.inr ⟨_, rfl⟩) rfl ?_
  exact h
/-- the first elements -/
theorem c_al_grow0 {a e : Nat} {v w : Value} (ha : G a = some (oB 10 [v, .ref 1, w])) (he : 16 ≤ e) (ge : G e = none) (h : Q (some (.ref e)) (up (up G e (aO 10 (fun _ => none))) a (oB 10 [v, .ref e, w]))) : A 3 M_al_grow 0 [some (.ref a), some (.int 1), none, none] [] G 1 40 Q := by
  have hae : a ≠ e := fun z => by rw [z, ge] at ha; cases ha
  refine A.aload_k 0 rfl rfl rfl d_al_grow_0 ?_
  apply A.getfield f_al_9 d_al_grow_1
  · first | exact up_e hae ha | exact ha
  · rfl
  refine A.alen1 d_al_grow_4 ?_
  refine A.istore_k 2 rfl (Nat.le_of_ble_eq_true rfl) rfl d_al_grow_5 ?_
  dsimp only [List.set]
  refine A.iload_k 2 rfl rfl d_al_grow_6 ?_
  refine A.if_gt 20 (by decide) d_al_grow_7 (fun c7 => ?_) (fun c7 => ?_)
  · exact absurd c7 (by decide)
  refine A.aload_k 0 rfl rfl rfl d_al_grow_10 ?_
  apply A.getfield f_al_9 d_al_grow_11
  · first | exact up_e hae ha | exact ha
  · rfl
  refine A.getstatic gs_al_39 d_al_grow_14 ?_
  refine A.acmp_eq_t 45 (by decide) d_al_grow_17 ?_
  refine A.aload_k 0 rfl rfl rfl d_al_grow_45 ?_
  refine A.bipush (v := 10) rfl d_al_grow_46 ?_
  refine A.iload_k 1 rfl rfl d_al_grow_48 ?_
  refine A.max d_al_grow_49 s_al_79 (Nat.le_of_ble_eq_true rfl) (Nat.le_of_ble_eq_true rfl) ?_
  refine A.anew (a := e) (n := 10) aov_object cl_al_7 d_al_grow_52 (by decide) (by decide) (by first | decide | omega) (ge) (kc' := 0) (ks' := 30) (Nat.le_of_ble_eq_true rfl) (Nat.le_of_ble_eq_true rfl) ?_
  refine A.dup_x1 rfl rfl d_al_grow_55 ?_
  apply A.putfield p_al_9 d_al_grow_56
  · first | exact up_e hae ha | exact ha
  · exact (Nat.le_of_ble_eq_true rfl)
  · rfl
  dsimp only [List.set]
  refine A.aret d_al_grow_59 rfl (Or.inr ⟨_, rfl⟩) rfl ?_
  exact h
/-- more elements -/
theorem c_al_grow1 {a e e0 c c' : Nat} {f : Nat → Option Nat} {v w : Value} (ha : G a = some (oB 10 [v, .ref e0, w])) (he0 : G e0 = some (aO c f)) (hel : ∀ k b, k < c → f k = some b → ∃ fs, G b = some (oB 5 fs)) (he : 16 ≤ e) (ge : G e = none) (h0 : 0 < c) (hc : c ≤ c') (hc2 : c' ≤ 40) (hx : nI c + (if nI (c + 1) - nI c < nI c >>> (1 &&& 31) then nI c >>> (1 &&& 31) else nI (c + 1) - nI c) = nI c') (h : Q (some (.ref e)) (up (up G e (aO c' (fun k => if k < c then f k else none))) a (oB 10 [v, .ref e, w]))) : A 3 M_al_grow 0 [some (.ref a), some (.int (nI (c + 1))), none, none] [] G 1 40 Q := by
  have hae : a ≠ e := fun z => by rw [z, ge] at ha; cases ha
  refine A.aload_k 0 rfl rfl rfl d_al_grow_0 ?_
  apply A.getfield f_al_9 d_al_grow_1
  · first | exact up_e hae ha | exact ha | exact he0
  · rfl
  apply A.alen d_al_grow_4
  · first | exact up_e hae ha | exact ha | exact he0
  · rfl
  refine A.istore_k 2 rfl (Nat.le_of_ble_eq_true rfl) rfl d_al_grow_5 ?_
  dsimp only [List.set]
  refine A.iload_k 2 rfl rfl d_al_grow_6 ?_
  refine A.if_gt 20 (by decide) d_al_grow_7 (fun c7 => ?_) (fun c7 => ?_)
  · refine A.iload_k 2 rfl rfl d_al_grow_20 ?_
    refine A.iload_k 1 rfl rfl d_al_grow_21 ?_
    refine A.iload_k 2 rfl rfl d_al_grow_22 ?_
    refine A.isub d_al_grow_23 ?_
    refine A.iload_k 2 rfl rfl d_al_grow_24 ?_
    refine A.iconst (v := 1) rfl d_al_grow_25 ?_
    refine A.ishr d_al_grow_26 ?_
    refine A.callS3 s_al_73 (Nat.le_of_ble_eq_true rfl) (Nat.le_of_ble_eq_true rfl) (Nat.le_of_ble_eq_true rfl) d_al_grow_27 rfl (c_as_newLength (by omega) (by omega) hx ?_)
    dsimp only [psh]
    refine A.istore_k 3 rfl (Nat.le_of_ble_eq_true rfl) rfl d_al_grow_30 ?_
    dsimp only [List.set]
    refine A.aload_k 0 rfl rfl rfl d_al_grow_31 ?_
    refine A.aload_k 0 rfl rfl rfl d_al_grow_32 ?_
    apply A.getfield f_al_9 d_al_grow_33
    · first | exact up_e hae ha | exact ha | exact he0
    · rfl
    refine A.iload_k 3 rfl rfl d_al_grow_36 ?_
    refine A.callSa2 s_al_66 (Nat.le_of_ble_eq_true rfl) (Nat.le_of_ble_eq_true rfl) (Nat.le_of_ble_eq_true rfl) d_al_grow_37 (kc1 := 1) (ks1 := 40) (kc2 := 0) (ks2 := 0) (Nat.le_of_ble_eq_true rfl) (Nat.le_of_ble_eq_true rfl) rfl (c_ar_copyOf he0 hel he ge hc hc2 ?_)
    dsimp only [psh]
    refine A.dup_x1 rfl rfl d_al_grow_40 ?_
    apply A.putfield p_al_9 d_al_grow_41
    · first | exact up_e hae ha | exact ha | exact he0
    · exact (Nat.le_of_ble_eq_true rfl)
    · rfl
    dsimp only [List.set]
    refine A.aret d_al_grow_44 rfl (Or.inr ⟨_, rfl⟩) rfl ?_
    exact h
  · exact absurd ((nI_ltI (a := 0) (by omega) (by omega)).mpr h0) c7
/-- where an element is put: the array's name and what it holds -/
theorem c_al_add_ {a e n b c : Nat} {v w : Value} {f : Nat → Option Nat} {fs : List Value} (ha : G a = some (oB 10 [v, w, .int (nI n)])) (he : G e = some (aO c f)) (hb : G b = some (oB 5 fs)) (hn : n < c) (hc : c ≤ 40) (h : Q none (up (up G e (aO c (va_up f n (some b)))) a (oB 10 [v, w, .int (nI (n + 1))]))) : A 5 M_al_add 11 [some (.ref a), some (.ref b), some (.ref e), some (.int (nI n))] [] G kc ks Q := by
  have hae : a ≠ e := fun z => by rw [z, he] at ha; cases ha
  refine A.aload_k 2 rfl rfl rfl d_al_add_11 ?_
  refine A.iload_k 3 rfl rfl d_al_add_12 ?_
  refine A.aload_k 1 rfl rfl rfl d_al_add_13 ?_
  apply A.aastore (j := n) d_al_add_14
  · first | exact up_e hae ha | exact ha | exact he | exact hb
  · first | exact up_e hae ha | exact ha | exact he | exact hb
  · rfl
  · exact Or.inr cast_pl
  · exact ixn (by omega)
  · exact hn
  refine A.aload_k 0 rfl rfl rfl d_al_add_15 ?_
  refine A.iload_k 3 rfl rfl d_al_add_16 ?_
  refine A.iconst (v := 1) rfl d_al_add_17 ?_
  refine A.iadd d_al_add_18 ?_
  apply A.putfield p_al_48 d_al_add_19
  · first | exact up_e hae ha | exact ha | exact he | exact hb
  · exact (Nat.le_of_ble_eq_true rfl)
  · rfl
  dsimp only [List.set]
  refine A.vret d_al_add_22 rfl ?_
  rw [nI_1]; exact h
def AdQ (G : AHp) (a e b n c : Nat) (m : Int32) (f : Nat → Option Nat) (Q : Option Value → AHp → Prop) : Prop := Q (some (.int 1)) (up (up G e (aO c (va_up f n (some b)))) a (oB 10 [.int (m + 1), .ref e, .int (nI (n + 1))]))
/-- there is room -/
theorem c_al_add2a {a e n b c : Nat} {m : Int32} {f : Nat → Option Nat} {fs : List Value} (ha : G a = some (oB 10 [.int m, .ref e, .int (nI n)])) (he : G e = some (aO c f)) (hb : G b = some (oB 5 fs)) (hn : n < c) (hc : c ≤ 40) (h : AdQ G a e b n c m f Q) : A 6 M_al_add2 0 [some (.ref a), some (.ref b)] [] G 1 40 Q := by
  have hae : a ≠ e := fun z => by rw [z, he] at ha; cases ha
  have hab : a ≠ b := fun z => by subst z; rw [ha] at hb; cases hb
  have hea : e ≠ a := fun z => hae z.symm
  have hba : b ≠ a := fun z => hab z.symm
  have add : ∀ Q', Q' none (up (up (up G a (oB 10 [.int (m + 1), .ref e, .int (nI n)])) e (aO c (va_up f n (some b)))) a (oB 10 [.int (m + 1), .ref e, .int (nI (n + 1))])) → A 5 M_al_add 0 [some (.ref a), some (.ref b), some (.ref e), some (.int (nI n))] [] (up G a (oB 10 [.int (m + 1), .ref e, .int (nI n)])) 1 40 Q' := by
    intro Q' h
    refine A.iload_k 3 rfl rfl d_al_add_0 ?_
    refine A.aload_k 2 rfl rfl rfl d_al_add_1 ?_
    apply A.alen d_al_add_2
    · exact up_e hea he
    · rfl
    refine A.icmp_ne 11 (by decide) d_al_add_3 (fun c3 => ?_) (fun c3 => ?_)
    · exact c_al_add_ up_s (up_e hea he) (up_e hba hb) hn hc h
    · exact absurd (nI_inj (a := n) (b := c) (by omega) (by omega) c3) (by omega)
  refine A.aload_k 0 rfl rfl rfl d_al_add2_0 ?_
  refine A.dup rfl d_al_add2_1 ?_
  apply A.getfield f_al_63 d_al_add2_2
  · first | exact up_s | exact ha
  · rfl
  refine A.iconst (v := 1) rfl d_al_add2_5 ?_
  refine A.iadd d_al_add2_6 ?_
  apply A.putfield p_al_63 d_al_add2_7
  · first | exact up_s | exact ha
  · exact (Nat.le_of_ble_eq_true rfl)
  · rfl
  dsimp only [List.set]
  refine A.aload_k 0 rfl rfl rfl d_al_add2_10 ?_
  refine A.aload_k 1 rfl rfl rfl d_al_add2_11 ?_
  refine A.aload_k 0 rfl rfl rfl d_al_add2_12 ?_
  apply A.getfield f_al_9 d_al_add2_13
  · first | exact up_s | exact ha
  · rfl
  refine A.aload_k 0 rfl rfl rfl d_al_add2_16 ?_
  apply A.getfield f_al_48 d_al_add2_17
  · first | exact up_s | exact ha
  · rfl
  refine A.callVa3 s_al_131 ?_ (Nat.le_of_ble_eq_true rfl) (Nat.le_of_ble_eq_true rfl) (Nat.le_of_ble_eq_true rfl) d_al_add2_20 (kc1 := 1) (ks1 := 40) (kc2 := 0) (ks2 := 0) (Nat.le_of_ble_eq_true rfl) (Nat.le_of_ble_eq_true rfl) rfl (add _ ?_)
  · apply Exists.intro
    first | exact up_s | exact ha
  dsimp only [psh]
  refine A.iconst (v := 1) rfl d_al_add2_23 ?_
  refine A.zret d_al_add2_24 rfl (Or.inr rfl) ?_
  rw [up_swap hae, up_up]; exact h
/-- the first element -/
theorem c_al_add2b {a e b : Nat} {m : Int32} {fs : List Value} (ha : G a = some (oB 10 [.int m, .ref 1, .int 0])) (he : 16 ≤ e) (ge : G e = none) (hb : G b = some (oB 5 fs)) (h : AdQ G a e b 0 10 m (fun _ => none) Q) : A 6 M_al_add2 0 [some (.ref a), some (.ref b)] [] G 1 40 Q := by
  have hae : a ≠ e := fun z => by rw [z, ge] at ha; cases ha
  have hab : a ≠ b := fun z => by subst z; rw [ha] at hb; cases hb
  have heb : e ≠ b := fun z => by rw [← z, ge] at hb; cases hb
  have hea : e ≠ a := fun z => hae z.symm
  have hba : b ≠ a := fun z => hab z.symm
  have hbe : b ≠ e := fun z => heb z.symm
  have add : ∀ Q', Q' none (up (up (up (up (up G a (oB 10 [.int (m + 1), .ref 1, .int 0])) e (aO 10 (fun _ => none))) a (oB 10 [.int (m + 1), .ref e, .int 0])) e (aO 10 (va_up (fun _ => none) 0 (some b)))) a (oB 10 [.int (m + 1), .ref e, .int (nI 1)])) → A 5 M_al_add 0 [some (.ref a), some (.ref b), some (.ref 1), some (.int 0)] [] (up G a (oB 10 [.int (m + 1), .ref 1, .int 0])) 1 40 Q' := by
    intro Q' h
    have grow : ∀ Q', Q' (some (.ref e)) (up (up (up G a (oB 10 [.int (m + 1), .ref 1, .int 0])) e (aO 10 (fun _ => none))) a (oB 10 [.int (m + 1), .ref e, .int 0])) → A 4 M_al_grow2 0 [some (.ref a)] [] (up G a (oB 10 [.int (m + 1), .ref 1, .int 0])) 1 40 Q' := by
      intro Q' h
      refine A.aload_k 0 rfl rfl rfl d_al_grow2_0 ?_
      refine A.aload_k 0 rfl rfl rfl d_al_grow2_1 ?_
      apply A.getfield f_al_48 d_al_grow2_2
      · exact up_s
      · rfl
      refine A.iconst (v := 1) rfl d_al_grow2_5 ?_
      refine A.iadd d_al_grow2_6 ?_
      refine A.callVa1 s_al_69 ?_ (Nat.le_of_ble_eq_true rfl) (Nat.le_of_ble_eq_true rfl) (Nat.le_of_ble_eq_true rfl) d_al_grow2_7 (kc1 := 1) (ks1 := 40) (kc2 := 0) (ks2 := 0) (Nat.le_of_ble_eq_true rfl) (Nat.le_of_ble_eq_true rfl) rfl (c_al_grow0 up_s he (up_e hea ge) ?_)
      · apply Exists.intro
        exact up_s
      dsimp only [psh]
      refine A.aret d_al_grow2_10 rfl (Or.inr ⟨_, rfl⟩) rfl ?_
      exact h
    refine A.iload_k 3 rfl rfl d_al_add_0 ?_
    refine A.aload_k 2 rfl rfl rfl d_al_add_1 ?_
    refine A.alen1 d_al_add_2 ?_
    refine A.icmp_ne 11 (by decide) d_al_add_3 (fun c3 => ?_) (fun c3 => ?_)
    · exact absurd rfl c3
    refine A.aload_k 0 rfl rfl rfl d_al_add_6 ?_
    refine A.callVa0 s_al_129 ?_ (Nat.le_of_ble_eq_true rfl) (Nat.le_of_ble_eq_true rfl) (Nat.le_of_ble_eq_true rfl) d_al_add_7 (kc1 := 1) (ks1 := 40) (kc2 := 0) (ks2 := 0) (Nat.le_of_ble_eq_true rfl) (Nat.le_of_ble_eq_true rfl) rfl (grow _ ?_)
    · apply Exists.intro
      exact up_s
    dsimp only [psh]
    refine A.astore_k 2 rfl (Nat.le_of_ble_eq_true rfl) rfl rfl d_al_add_10 ?_
    dsimp only [List.set]
    exact c_al_add_ (n := 0) up_s (up_e hea up_s) (up_e hba (up_e hbe (up_e hba hb))) (by omega) (by omega) h
  refine A.aload_k 0 rfl rfl rfl d_al_add2_0 ?_
  refine A.dup rfl d_al_add2_1 ?_
  apply A.getfield f_al_63 d_al_add2_2
  · first | exact up_s | exact ha
  · rfl
  refine A.iconst (v := 1) rfl d_al_add2_5 ?_
  refine A.iadd d_al_add2_6 ?_
  apply A.putfield p_al_63 d_al_add2_7
  · first | exact up_s | exact ha
  · exact (Nat.le_of_ble_eq_true rfl)
  · rfl
  dsimp only [List.set]
  refine A.aload_k 0 rfl rfl rfl d_al_add2_10 ?_
  refine A.aload_k 1 rfl rfl rfl d_al_add2_11 ?_
  refine A.aload_k 0 rfl rfl rfl d_al_add2_12 ?_
  apply A.getfield f_al_9 d_al_add2_13
  · first | exact up_s | exact ha
  · rfl
  refine A.aload_k 0 rfl rfl rfl d_al_add2_16 ?_
  apply A.getfield f_al_48 d_al_add2_17
  · first | exact up_s | exact ha
  · rfl
  refine A.callVa3 s_al_131 ?_ (Nat.le_of_ble_eq_true rfl) (Nat.le_of_ble_eq_true rfl) (Nat.le_of_ble_eq_true rfl) d_al_add2_20 (kc1 := 1) (ks1 := 40) (kc2 := 0) (ks2 := 0) (Nat.le_of_ble_eq_true rfl) (Nat.le_of_ble_eq_true rfl) rfl (add _ ?_)
  · apply Exists.intro
    first | exact up_s | exact ha
  dsimp only [psh]
  refine A.iconst (v := 1) rfl d_al_add2_23 ?_
  refine A.zret d_al_add2_24 rfl (Or.inr rfl) ?_
  rw [up_swap hae, up_up, up_up, up_swap hae, up_up]; exact h
/-- the array is full -/
theorem c_al_add2c {a e e0 b c c' : Nat} {m : Int32} {f : Nat → Option Nat} {fs : List Value} (ha : G a = some (oB 10 [.int m, .ref e0, .int (nI c)])) (he0 : G e0 = some (aO c f)) (hel : ∀ k b, k < c → f k = some b → ∃ fs, G b = some (oB 5 fs)) (he : 16 ≤ e) (ge : G e = none) (hb : G b = some (oB 5 fs)) (h0 : 0 < c) (hc : c < c') (hc2 : c' ≤ 40) (hx : nI c + (if nI (c + 1) - nI c < nI c >>> (1 &&& 31) then nI c >>> (1 &&& 31) else nI (c + 1) - nI c) = nI c') (h : AdQ G a e b c c' m (fun k => if k < c then f k else none) Q) : A 6 M_al_add2 0 [some (.ref a), some (.ref b)] [] G 1 40 Q := by
  have hae : a ≠ e := fun z => by rw [z, ge] at ha; cases ha
  have hae0 : a ≠ e0 := fun z => by subst z; rw [ha] at he0; cases he0
  have hab : a ≠ b := fun z => by subst z; rw [ha] at hb; cases hb
  have heb : e ≠ b := fun z => by rw [← z, ge] at hb; cases hb
  have hea : e ≠ a := fun z => hae z.symm
  have hea0 : e0 ≠ a := fun z => hae0 z.symm
  have hba : b ≠ a := fun z => hab z.symm
  have hbe : b ≠ e := fun z => heb z.symm
  have add : ∀ Q', Q' none (up (up (up (up (up G a (oB 10 [.int (m + 1), .ref e0, .int (nI c)])) e (aO c' (fun k => if k < c then f k else none))) a (oB 10 [.int (m + 1), .ref e, .int (nI c)])) e (aO c' (va_up (fun k => if k < c then f k else none) c (some b)))) a (oB 10 [.int (m + 1), .ref e, .int (nI (c + 1))])) → A 5 M_al_add 0 [some (.ref a), some (.ref b), some (.ref e0), some (.int (nI c))] [] (up G a (oB 10 [.int (m + 1), .ref e0, .int (nI c)])) 1 40 Q' := by
    intro Q' h
    have grow : ∀ Q', Q' (some (.ref e)) (up (up (up G a (oB 10 [.int (m + 1), .ref e0, .int (nI c)])) e (aO c' (fun k => if k < c then f k else none))) a (oB 10 [.int (m + 1), .ref e, .int (nI c)])) → A 4 M_al_grow2 0 [some (.ref a)] [] (up G a (oB 10 [.int (m + 1), .ref e0, .int (nI c)])) 1 40 Q' := by
      intro Q' h
      refine A.aload_k 0 rfl rfl rfl d_al_grow2_0 ?_
      refine A.aload_k 0 rfl rfl rfl d_al_grow2_1 ?_
      apply A.getfield f_al_48 d_al_grow2_2
      · exact up_s
      · rfl
      refine A.iconst (v := 1) rfl d_al_grow2_5 ?_
      refine A.iadd d_al_grow2_6 ?_
      rw [nI_1]
      refine A.callVa1 s_al_69 ?_ (Nat.le_of_ble_eq_true rfl) (Nat.le_of_ble_eq_true rfl) (Nat.le_of_ble_eq_true rfl) d_al_grow2_7 (kc1 := 1) (ks1 := 40) (kc2 := 0) (ks2 := 0) (Nat.le_of_ble_eq_true rfl) (Nat.le_of_ble_eq_true rfl) rfl (c_al_grow1 up_s (up_e hea0 he0) (fun k b hk hb => (hel k b hk hb).elim (fun fs hf => ⟨fs, up_e (fun z => by subst z; rw [ha] at hf; cases hf) hf⟩)) he (up_e hea ge) h0 (by omega) hc2 hx ?_)
      · apply Exists.intro
        exact up_s
      dsimp only [psh]
      refine A.aret d_al_grow2_10 rfl (Or.inr ⟨_, rfl⟩) rfl ?_
      exact h
    refine A.iload_k 3 rfl rfl d_al_add_0 ?_
    refine A.aload_k 2 rfl rfl rfl d_al_add_1 ?_
    apply A.alen d_al_add_2
    · first | exact up_s | exact up_e hea0 he0
    · rfl
    refine A.icmp_ne 11 (by decide) d_al_add_3 (fun c3 => ?_) (fun c3 => ?_)
    · exact absurd rfl c3
    refine A.aload_k 0 rfl rfl rfl d_al_add_6 ?_
    refine A.callVa0 s_al_129 ?_ (Nat.le_of_ble_eq_true rfl) (Nat.le_of_ble_eq_true rfl) (Nat.le_of_ble_eq_true rfl) d_al_add_7 (kc1 := 1) (ks1 := 40) (kc2 := 0) (ks2 := 0) (Nat.le_of_ble_eq_true rfl) (Nat.le_of_ble_eq_true rfl) rfl (grow _ ?_)
    · apply Exists.intro
      first | exact up_s | exact up_e hea0 he0
    dsimp only [psh]
    refine A.astore_k 2 rfl (Nat.le_of_ble_eq_true rfl) rfl rfl d_al_add_10 ?_
    dsimp only [List.set]
    exact c_al_add_ up_s (up_e hea up_s) (up_e hba (up_e hbe (up_e hba hb))) hc hc2 h
  refine A.aload_k 0 rfl rfl rfl d_al_add2_0 ?_
  refine A.dup rfl d_al_add2_1 ?_
  apply A.getfield f_al_63 d_al_add2_2
  · first | exact up_s | exact ha
  · rfl
  refine A.iconst (v := 1) rfl d_al_add2_5 ?_
  refine A.iadd d_al_add2_6 ?_
  apply A.putfield p_al_63 d_al_add2_7
  · first | exact up_s | exact ha
  · exact (Nat.le_of_ble_eq_true rfl)
  · rfl
  dsimp only [List.set]
  refine A.aload_k 0 rfl rfl rfl d_al_add2_10 ?_
  refine A.aload_k 1 rfl rfl rfl d_al_add2_11 ?_
  refine A.aload_k 0 rfl rfl rfl d_al_add2_12 ?_
  apply A.getfield f_al_9 d_al_add2_13
  · first | exact up_s | exact ha
  · rfl
  refine A.aload_k 0 rfl rfl rfl d_al_add2_16 ?_
  apply A.getfield f_al_48 d_al_add2_17
  · first | exact up_s | exact ha
  · rfl
  refine A.callVa3 s_al_131 ?_ (Nat.le_of_ble_eq_true rfl) (Nat.le_of_ble_eq_true rfl) (Nat.le_of_ble_eq_true rfl) d_al_add2_20 (kc1 := 1) (ks1 := 40) (kc2 := 0) (ks2 := 0) (Nat.le_of_ble_eq_true rfl) (Nat.le_of_ble_eq_true rfl) rfl (add _ ?_)
  · apply Exists.intro
    first | exact up_s | exact ha
  dsimp only [psh]
  refine A.iconst (v := 1) rfl d_al_add2_23 ?_
  refine A.zret d_al_add2_24 rfl (Or.inr rfl) ?_
  rw [up_swap hae, up_up, up_up, up_swap hae, up_up]; exact h
end GROW
