/-! the component: new plots -/
section AF5
variable {M S : MS} {G : AHp} {kc ks np : Nat} {Q : Option Value → AHp → Prop}
/-- a street that is full -/
theorem c_sr_append0 {q P : Nat} {m : Int32} {u v : Value} (hs : G (40 + q) = some (oB 7 [.ref (46 + q), u])) (hl : G (46 + q) = some (oB 10 [.int m, v, .int (nI 8)])) (h : Q (some (.int 0)) G) : A 7 M_sr_append 0 [some (.ref (40 + q)), some (.ref P), none, none] [] G kc ks Q := by
  refine A.aload_k 0 rfl rfl rfl d_sr_append_0 ?_
  apply A.getfield f_sr_12 d_sr_append_1
  · repeat first | assumption | exact up_s | refine up_e (by first | decide | omega) ?_
  · rfl
  refine A.callV0 s_sr_22 ?_ (Nat.le_of_ble_eq_true rfl) (Nat.le_of_ble_eq_true rfl) (Nat.le_of_ble_eq_true rfl) d_sr_append_4 rfl (c_al_size (by repeat first | assumption | exact up_s | refine up_e (by first | decide | omega) ?_) ?_)
  · apply Exists.intro
    repeat first | assumption | exact up_s | refine up_e (by first | decide | omega) ?_
  dsimp only [psh]
  refine A.bipush (v := 8) rfl d_sr_append_7 ?_
  refine A.icmp_lt 14 (by decide) d_sr_append_9 (fun c9 => ?_) (fun c9 => ?_)
  · exact absurd c9 (by decide)
  refine A.iconst (v := 0) rfl d_sr_append_12 ?_
  refine A.zret d_sr_append_13 rfl (Or.inl rfl) ?_
  exact h
/-- an empty street -/
theorem c_sr_append1 {q P : Nat} {m : Int32} {u : Value} {fs : List Value} (hs : G (40 + q) = some (oB 7 [.ref (46 + q), u])) (hl : G (46 + q) = some (oB 10 [.int m, .ref 1, .int 0])) (he : G (70 + q) = none) (hP : G P = some (oB 5 fs)) (h : Q (some (.int 1)) (up (up G (70 + q) (aO 10 (va_up (fun _ => none) 0 (some P)))) (46 + q) (oB 10 [.int (m + 1), .ref (70 + q), .int (nI 1)]))) : A 7 M_sr_append 0 [some (.ref (40 + q)), some (.ref P), none, none] [] G 2 44 Q := by
  refine A.aload_k 0 rfl rfl rfl d_sr_append_0 ?_
  apply A.getfield f_sr_12 d_sr_append_1
  · repeat first | assumption | exact up_s | refine up_e (by first | decide | omega) ?_
  · rfl
  refine A.callV0 s_sr_22 ?_ (Nat.le_of_ble_eq_true rfl) (Nat.le_of_ble_eq_true rfl) (Nat.le_of_ble_eq_true rfl) d_sr_append_4 rfl (c_al_size (by repeat first | assumption | exact up_s | refine up_e (by first | decide | omega) ?_) ?_)
  · apply Exists.intro
    repeat first | assumption | exact up_s | refine up_e (by first | decide | omega) ?_
  dsimp only [psh]
  refine A.bipush (v := 8) rfl d_sr_append_7 ?_
  refine A.icmp_lt 14 (by decide) d_sr_append_9 (fun c9 => ?_) (fun c9 => ?_)
  · refine A.aload_k 0 rfl rfl rfl d_sr_append_14 ?_
    apply A.getfield f_sr_12 d_sr_append_15
    · repeat first | assumption | exact up_s | refine up_e (by first | decide | omega) ?_
    · rfl
    refine A.callV0 s_sr_26 ?_ (Nat.le_of_ble_eq_true rfl) (Nat.le_of_ble_eq_true rfl) (Nat.le_of_ble_eq_true rfl) d_sr_append_18 rfl (c_al_isEmpty hl (fun z1 => ?_) (fun z0 => absurd rfl z0))
    · apply Exists.intro
      repeat first | assumption | exact up_s | refine up_e (by first | decide | omega) ?_
    dsimp only [psh]
    refine A.if_ne1 64 (by decide) d_sr_append_21 ?_
    refine A.aload_k 0 rfl rfl rfl d_sr_append_64 ?_
    apply A.getfield f_sr_12 d_sr_append_65
    · repeat first | assumption | exact up_s | refine up_e (by first | decide | omega) ?_
    · rfl
    refine A.aload_k 1 rfl rfl rfl d_sr_append_68 ?_
    refine A.callVa1 s_sr_48 ?_ (Nat.le_of_ble_eq_true rfl) (Nat.le_of_ble_eq_true rfl) (Nat.le_of_ble_eq_true rfl) d_sr_append_69 (kc1 := 1) (ks1 := 40) (kc2 := 1) (ks2 := 4) (Nat.le_of_ble_eq_true rfl) (Nat.le_of_ble_eq_true rfl) rfl (c_al_add2b (e := 70 + q) hl (by omega) he hP ?_)
    · apply Exists.intro
      repeat first | assumption | exact up_s | refine up_e (by first | decide | omega) ?_
    dsimp only [psh]
    refine A.pop rfl d_sr_append_72 ?_
    refine A.iconst (v := 1) rfl d_sr_append_73 ?_
    refine A.zret d_sr_append_74 rfl (Or.inr rfl) ?_
    exact h
  · exact absurd (by decide) c9
/-- a street with plots -/
theorem c_sr_append2 {q P W b n : Nat} {m : Int32} {u : Value} {f : Nat → Option Nat} {u0 u1 u2 u3 u4 u5 u6 u7 u8 v0 v1 v2 v3 v4 v5 v6 v7 v8 : Value} (hq : q < 6) (hn : 1 ≤ n) (hn7 : n < 8) (hs : G (40 + q) = some (oB 7 [.ref (46 + q), u])) (hl : G (46 + q) = some (oB 10 [.int m, .ref (70 + q), .int (nI n)])) (he : G (70 + q) = some (aO 10 f)) (hf : f (n - 1) = some b) (hb : G b = some (oB 5 [u0, u1, u2, u3, u4, u5, u6, u7, u8])) (hP : G P = some (oB 5 [v0, v1, v2, v3, v4, v5, v6, v7, v8])) (hW : G W = none) (hb1 : 1000 ≤ b) (hP1 : 1000 ≤ P) (hW1 : 1000 ≤ W) (hbP : b ≠ P)
    (h : Q (some (.int 1)) (up (up (up (up (up G W (oB 9 [.ref b, .ref P, .int 0, .int (-1)])) b (oB 5 [u0, u1, u2, u3, u4, u5, u6, u7, .ref W])) P (oB 5 [v0, v1, v2, v3, v4, v5, v6, .ref W, v8])) (70 + q) (aO 10 (va_up f n (some P)))) (46 + q) (oB 10 [.int (m + 1), .ref (70 + q), .int (nI (n + 1))]))) : A 7 M_sr_append 0 [some (.ref (40 + q)), some (.ref P), none, none] [] G 2 44 Q := by
  have hbW : b ≠ W := fun z => by rw [z, hW] at hb; cases hb
  have hPW : P ≠ W := fun z => by rw [z, hW] at hP; cases hP
  have hWb := Ne.symm hbW
  have hWP := Ne.symm hPW
  have hPb := Ne.symm hbP
  refine A.aload_k 0 rfl rfl rfl d_sr_append_0 ?_
  apply A.getfield f_sr_12 d_sr_append_1
  · repeat first | assumption | exact up_s | refine up_e (by first | assumption | omega) ?_
  · rfl
  refine A.callV0 s_sr_22 ?_ (Nat.le_of_ble_eq_true rfl) (Nat.le_of_ble_eq_true rfl) (Nat.le_of_ble_eq_true rfl) d_sr_append_4 rfl (c_al_size (by repeat first | assumption | exact up_s | refine up_e (by first | assumption | omega) ?_) ?_)
  · apply Exists.intro
    repeat first | assumption | exact up_s | refine up_e (by first | assumption | omega) ?_
  dsimp only [psh]
  refine A.bipush (v := 8) rfl d_sr_append_7 ?_
  refine A.icmp_lt 14 (by decide) d_sr_append_9 (fun c9 => ?_) (fun c9 => ?_)
  · refine A.aload_k 0 rfl rfl rfl d_sr_append_14 ?_
    apply A.getfield f_sr_12 d_sr_append_15
    · repeat first | assumption | exact up_s | refine up_e (by first | assumption | omega) ?_
    · rfl
    refine A.callV0 s_sr_26 ?_ (Nat.le_of_ble_eq_true rfl) (Nat.le_of_ble_eq_true rfl) (Nat.le_of_ble_eq_true rfl) d_sr_append_18 rfl (c_al_isEmpty hl (fun z1 => absurd (nI_inj (b := 0) (by omega) (by omega) z1) (by omega)) (fun z0 => ?_))
    · apply Exists.intro
      repeat first | assumption | exact up_s | refine up_e (by first | assumption | omega) ?_
    dsimp only [psh]
    refine A.if_ne0 d_sr_append_21 (tgt := 64) (by decide) ?_
    refine A.aload_k 0 rfl rfl rfl d_sr_append_24 ?_
    apply A.getfield f_sr_12 d_sr_append_25
    · repeat first | assumption | exact up_s | refine up_e (by first | assumption | omega) ?_
    · rfl
    refine A.aload_k 0 rfl rfl rfl d_sr_append_28 ?_
    apply A.getfield f_sr_12 d_sr_append_29
    · repeat first | assumption | exact up_s | refine up_e (by first | assumption | omega) ?_
    · rfl
    refine A.callV0 s_sr_22 ?_ (Nat.le_of_ble_eq_true rfl) (Nat.le_of_ble_eq_true rfl) (Nat.le_of_ble_eq_true rfl) d_sr_append_32 rfl (c_al_size (by repeat first | assumption | exact up_s | refine up_e (by first | assumption | omega) ?_) ?_)
    · apply Exists.intro
      repeat first | assumption | exact up_s | refine up_e (by first | assumption | omega) ?_
    dsimp only [psh]
    refine A.iconst (v := 1) rfl d_sr_append_35 ?_
    refine A.isub d_sr_append_36 ?_
    rw [nI_1s hn (by omega)]
    refine A.callV1 s_sr_30 ?_ (Nat.le_of_ble_eq_true rfl) (Nat.le_of_ble_eq_true rfl) (Nat.le_of_ble_eq_true rfl) d_sr_append_37 rfl (c_al_get hl he (by omega) (by omega) hf ?_)
    · apply Exists.intro
      repeat first | assumption | exact up_s | refine up_e (by first | assumption | omega) ?_
    dsimp only [psh]
    refine A.cast1 (ci := 5) d_sr_append_40 cl_sr_34 rfl ?_ ?_
    · apply Exists.intro
      repeat first | assumption | exact up_s | refine up_e (by first | assumption | omega) ?_
    refine A.astore_k 2 rfl (Nat.le_of_ble_eq_true rfl) rfl rfl d_sr_append_43 ?_
    dsimp only [List.set]
    refine A.new (a := W) n_sr_36 d_sr_append_44 (by first | decide | omega) (by repeat first | assumption | refine up_e (by first | decide | omega) ?_) (kc' := 1) (ks' := 40) (Nat.le_of_ble_eq_true rfl) (Nat.le_of_ble_eq_true rfl) ?_
    refine A.dup rfl d_sr_append_47 ?_
    refine A.aload_k 2 rfl rfl rfl d_sr_append_48 ?_
    refine A.aload_k 1 rfl rfl rfl d_sr_append_49 ?_
    refine A.callIa2 s_sr_38 (Nat.le_of_ble_eq_true rfl) (Nat.le_of_ble_eq_true rfl) (Nat.le_of_ble_eq_true rfl) d_sr_append_50 (kc1 := 0) (ks1 := 0) (kc2 := 1) (ks2 := 40) (Nat.le_of_ble_eq_true rfl) (Nat.le_of_ble_eq_true rfl) rfl (c_wl_init up_s ?_)
    dsimp only [psh]
    rw [up_up]
    refine A.astore_k 3 rfl (Nat.le_of_ble_eq_true rfl) rfl rfl d_sr_append_53 ?_
    dsimp only [List.set]
    refine A.aload_k 2 rfl rfl rfl d_sr_append_54 ?_
    refine A.aload_k 3 rfl rfl rfl d_sr_append_55 ?_
    apply A.putfield p_sr_41 d_sr_append_56
    · repeat first | assumption | exact up_s | refine up_e (by first | assumption | omega) ?_
    · exact (Nat.le_of_ble_eq_true rfl)
    · rfl
    dsimp only [List.set]
    refine A.aload_k 1 rfl rfl rfl d_sr_append_59 ?_
    refine A.aload_k 3 rfl rfl rfl d_sr_append_60 ?_
    apply A.putfield p_sr_45 d_sr_append_61
    · repeat first | assumption | exact up_s | refine up_e (by first | assumption | omega) ?_
    · exact (Nat.le_of_ble_eq_true rfl)
    · rfl
    dsimp only [List.set]
    refine A.aload_k 0 rfl rfl rfl d_sr_append_64 ?_
    apply A.getfield f_sr_12 d_sr_append_65
    · repeat first | assumption | exact up_s | refine up_e (by first | assumption | omega) ?_
    · rfl
    refine A.aload_k 1 rfl rfl rfl d_sr_append_68 ?_
    refine A.callVa1 s_sr_48 ?_ (Nat.le_of_ble_eq_true rfl) (Nat.le_of_ble_eq_true rfl) (Nat.le_of_ble_eq_true rfl) d_sr_append_69 (kc1 := 1) (ks1 := 40) (kc2 := 0) (ks2 := 0) (Nat.le_of_ble_eq_true rfl) (Nat.le_of_ble_eq_true rfl) rfl (c_al_add2a (by repeat first | assumption | exact up_s | refine up_e (by first | assumption | omega) ?_) (by repeat first | assumption | exact up_s | refine up_e (by first | assumption | omega) ?_) up_s (by omega) (by omega) ?_)
    · apply Exists.intro
      repeat first | assumption | exact up_s | refine up_e (by first | assumption | omega) ?_
    dsimp only [psh]
    refine A.pop rfl d_sr_append_72 ?_
    refine A.iconst (v := 1) rfl d_sr_append_73 ?_
    refine A.zret d_sr_append_74 rfl (Or.inr rfl) ?_
    exact h
  · exact absurd ((nI_ltI (b := 8) (by omega) (by omega)).mpr hn7) c9
/-- the list of all plots gets one more -/
theorem c_al_addL {fs : List Value} (hL : ListC G np) (h24 : np < 24) (hel : ∀ j, j < np → ∃ fs, G (1000 + 16 * j) = some (oB 5 fs)) (hP : G (1000 + 16 * np) = some (oB 5 fs)) (h : ∀ G', ListC G' (np + 1) → (∀ a, a ≠ 22 → (a < 80 ∨ 83 < a) → G' a = G a) → Q (some (.int 1)) G') : A 6 M_al_add2 0 [some (.ref 22), some (.ref (1000 + 16 * np))] [] G 1 40 Q := by
  obtain ⟨⟨m, l1⟩, l2, l3⟩ := hL
  have key : ∀ e c f, elN (np + 1) = e → cpN (np + 1) = c → 80 ≤ e → e ≤ 83 → elN np ≤ e → np < c → (∀ j, j < np → f j = some (1000 + 16 * j)) → AdQ G 22 e (1000 + 16 * np) np c m f Q := by
    intro e c f e1 e2 e3 e4 e5 e6 hf
    refine h _ ⟨⟨m + 1, ?_⟩, fun _ => ⟨va_up f np (some (1000 + 16 * np)), ?_, fun j hj => ?_⟩, fun a a1 a2 a3 => ?_⟩ (fun a a1 a2 => ?_)
    · rw [e1]; exact up_s
    · rw [e1, e2]; exact up_e (by omega) up_s
    · by_cases c : j = np
      · subst c; exact if_pos rfl
      · exact (if_neg c).trans (hf j (by omega))
    · rw [up_n (by omega), up_n (by omega)]
      exact l3 a (by omega) a2 a3
    · rw [up_n (by omega), up_n (by omega)]
  by_cases c0 : np = 0
  · subst c0
    exact c_al_add2b l1 (e := 80) (by omega) (l3 80 (by decide) (by omega) (by omega)) hP (key 80 10 _ rfl rfl (by omega) (by omega) (by decide) (by omega) (fun j hj => absurd hj (by omega)))
  · obtain ⟨f, f1, f2⟩ := l2 (by omega)
    have grow : ∀ c c' e e', np = c → elN c = e → cpN c = c → elN (c + 1) = e' → cpN (c + 1) = c' → c < c' → c' ≤ 40 → 80 ≤ e' → e' ≤ 83 → e < e' → nI c + (if nI (c + 1) - nI c < nI c >>> (1 &&& 31) then nI c >>> (1 &&& 31) else nI (c + 1) - nI c) = nI c' → A 6 M_al_add2 0 [some (.ref 22), some (.ref (1000 + 16 * np))] [] G 1 40 Q := by
      intro c c' e e' x1 x2 x3 x4 x5 x6 x7 x8 x9 x10 x11
      subst x1
      rw [x3] at f1
      exact c_al_add2c (e := e') l1 f1 (fun k b hk hb => by
        rw [f2 k hk] at hb
        cases hb
        exact hel k hk) (by omega) (l3 e' (by omega) (by omega) (by omega)) hP (by omega) x6 x7 x11 (key e' c' _ x4 x5 x8 x9 (by omega) x6 (fun j hj => (if_pos hj).trans (f2 j hj)))
    by_cases c10 : np = 10
    · exact grow 10 15 80 81 c10 rfl rfl rfl rfl (by omega) (by omega) (by omega) (by omega) (by omega) (by decide)
    · by_cases c15 : np = 15
      · exact grow 15 22 81 82 c15 rfl rfl rfl rfl (by omega) (by omega) (by omega) (by omega) (by omega) (by decide)
      · by_cases c22 : np = 22
        · exact grow 22 33 82 83 c22 rfl rfl rfl rfl (by omega) (by omega) (by omega) (by omega) (by omega) (by decide)
        · have e1 : elN (np + 1) = elN np := by
            unfold elN
            rw [if_neg (by omega), if_neg c0]
            by_cases a : np ≤ 10
            · rw [if_pos (by omega), if_pos a]
            · rw [if_neg (by omega), if_neg a]
              by_cases b : np ≤ 15
              · rw [if_pos (by omega), if_pos b]
              · rw [if_neg (by omega), if_neg b]
                by_cases d : np ≤ 22
                · rw [if_pos (by omega), if_pos d]
                · rw [if_neg (by omega), if_neg d]
          have e2 : cpN (np + 1) = cpN np := by
            unfold cpN
            by_cases a : np ≤ 10
            · rw [if_pos (by omega), if_pos a]
            · rw [if_neg (by omega), if_neg a]
              by_cases b : np ≤ 15
              · rw [if_pos (by omega), if_pos b]
              · rw [if_neg (by omega), if_neg b]
                by_cases d : np ≤ 22
                · rw [if_pos (by omega), if_pos d]
                · rw [if_neg (by omega), if_neg d]
          have e3 := cpN_le (n := np + 1) (by omega)
          have e4 := elN_pos (n := np) (by omega)
          exact c_al_add2a l1 f1 hP (by omega) (by omega) (key _ _ f e1 e2 (by omega) (by omega) (by omega) (by omega) f2)
end AF5
