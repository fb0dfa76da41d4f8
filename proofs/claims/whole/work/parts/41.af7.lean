/-! the component: plot -/
section AF7
variable {M M' S : MS} {G G' : AHp} {kc ks np : Nat} {Q : Option Value → AHp → Prop}
theorem nxt_none {p : Nat} (h : ∀ j, p < j → j < np → M 3 j ≠ M 3 p) : nxt M np p = -1 := by
  rcases behM_sp M p (np - (p + 1)) (p + 1) with ⟨e, _⟩ | ⟨a, k0, k1, k2, k3, k4⟩
  · exact e
  · exact absurd k3 (h a (by omega) (by omega))
theorem nxt_new1 {p : Nat} {s : Int32} (hp : p < np) (h3 : M' 3 = upd (M 3) np s) (h : ¬ (M 3 p = s ∧ ∀ i, p < i → i < np → M 3 i ≠ s)) : nxt M' (np + 1) p = nxt M np p := by
  have e3 : ∀ i, i < np → M' 3 i = M 3 i := fun i hi => by rw [h3, upd_ne (by omega)]
  rcases behM_sp M p (np - (p + 1)) (p + 1) with ⟨e, k⟩ | ⟨a, k0, k1, k2, k3, k4⟩
  · rw [show nxt M np p = -1 from e]
    have k : ∀ j, p < j → j < np → M 3 j ≠ M 3 p := fun j a b => k j (by omega) (by omega)
    refine nxt_none (fun j h1 h2 => ?_)
    rw [e3 p hp]
    by_cases c : j = np
    · subst c
      rw [h3, upd_eq]
      intro z
      exact h ⟨z.symm, fun i a b => by rw [z]; exact k i a b⟩
    · rw [e3 j (by omega)]
      exact k j h1 (by omega)
  · rw [show nxt M np p = nI a from k2]
    refine nxt_is (by omega) (by omega) (by rw [e3 a (by omega), e3 p hp]; exact k3) (fun j h1 h2 => ?_)
    rw [e3 j (by omega), e3 p hp]
    exact k4 j (by omega) h2
theorem nxt_new2 {b : Nat} {s : Int32} (hb : b < np) (h3 : M' 3 = upd (M 3) np s) (h1 : M 3 b = s) (h2 : ∀ i, b < i → i < np → M 3 i ≠ s) : nxt M np b = -1 ∧ nxt M' (np + 1) b = nI np := by
  have e3 : ∀ i, i < np → M' 3 i = M 3 i := fun i hi => by rw [h3, upd_ne (by omega)]
  refine ⟨nxt_none (fun j a c => by rw [h1]; exact h2 j a c), nxt_is hb (by omega) ?_ (fun j a c => ?_)⟩
  · rw [e3 b hb, h1, h3, upd_eq]
  · rw [e3 j (by omega), e3 b hb, h1]; exact h2 j a c
theorem bef_new1 {s : Int32} (h3 : M' 3 = upd (M 3) np s) (h : ∀ i, i < np → M 3 i ≠ s) : befM M' np np = -1 := by
  rcases befM_sp M' np np with ⟨e, _⟩ | ⟨a, k1, k2, k3, k4⟩
  · exact e
  · rw [h3, upd_eq, upd_ne (by omega)] at k3
    exact absurd k3 (h a k1)
theorem bef_new2 {b : Nat} {s : Int32} (hb : b < np) (h3 : M' 3 = upd (M 3) np s) (h1 : M 3 b = s) (h2 : ∀ i, b < i → i < np → M 3 i ≠ s) : befM M' np np = nI b := by
  rcases befM_sp M' np np with ⟨_, e⟩ | ⟨a, k1, k2, k3, k4⟩
  · have := e b hb
    rw [h3, upd_eq, upd_ne (by omega)] at this
    exact absurd h1 this
  · rw [h3, upd_eq, upd_ne (by omega)] at k3
    have : a = b := by
      rcases Nat.lt_trichotomy a b with y | y | y
      · have := k4 b y hb
        rw [h3, upd_eq, upd_ne (by omega)] at this
        exact absurd h1 this
      · exact y
      · exact absurd k3 (h2 a y k1)
    subst this
    exact k2
theorem mPlot_o {s x y w : Int32} {k : Nat} (h : k ≠ 2 ∧ k ≠ 3 ∧ k ≠ 4 ∧ k ≠ 5 ∧ k ≠ 8 ∧ k ≠ 9 ∧ k ≠ 11 ∧ k ≠ 12 ∧ k ≠ 13 ∧ k ≠ 14) : mPlot M np s x y w k = M k := by
  unfold mPlot
  rw [vn (by omega), vn (by omega), vn (by omega), vn (by omega), vn (by omega), vn (by omega), vn (by omega), vn (by omega), vn (by omega), vn (by omega)]
theorem mPlot_1 {s x y w : Int32} {k p : Nat} (hk : 3 ≤ k) (h8 : k < 8 ∨ 10 < k) (hp : p ≠ np) : mPlot M np s x y w k p = M k p := by
  by_cases c3 : k = 3
  · subst c3; show upd (M 3) np s p = M 3 p; exact upd_ne hp
  by_cases c4 : k = 4
  · subst c4; show upd (M 4) np x p = M 4 p; exact upd_ne hp
  by_cases c5 : k = 5
  · subst c5; show upd (M 5) np y p = M 5 p; exact upd_ne hp
  by_cases c11 : k = 11
  · subst c11; show upd (M 11) np (-1) p = M 11 p; exact upd_ne hp
  by_cases c12 : k = 12
  · subst c12; show upd (M 12) np (-1) p = M 12 p; exact upd_ne hp
  by_cases c13 : k = 13
  · subst c13; show upd (M 13) np (-1) p = M 13 p; exact upd_ne hp
  by_cases c14 : k = 14
  · subst c14; show upd (M 14) np (-1) p = M 14 p; exact upd_ne hp
  rw [mPlot_o (by omega)]
theorem mPlot_2 {s x y w : Int32} {k i : Nat} (hk : 8 ≤ k) (h8 : k ≤ 10) (hp : i ≠ 4 * np) : mPlot M np s x y w k i = M k i := by
  rcases (show k = 8 ∨ k = 9 ∨ k = 10 by omega) with rfl | rfl | rfl
  · show upd (M 8) (4 * np) w i = M 8 i; exact upd_ne hp
  · show upd (M 9) (4 * np) 99 i = M 9 i; exact upd_ne hp
  · rfl
/-- all cells, with the plot that came -/
theorem CH.new {q : Nat} {x y w : Int32} (hC : CH G M np) (hI : INV M np) (hn : np < 24) (hq : q < 6) (hG : ∀ a, a ≠ 22 → (a < 80 ∨ 83 < a) → a ≠ 46 + q → a ≠ 70 + q → (a < 1000 ∨ 1000 + 16 * (np + 1) ≤ a) → G' a = G a) (hL : ListC G' (np + 1)) (hR : RwO G' (strL M (nI q) np ++ [np]) q) (hpl : ∀ p, p < np → PlO G' (mPlot M np (nI q) x y w) (np + 1) p)
    (hw : ∃ o, G' (1000 + 16 * np) = some (oB 5 [.int x, .int y, .int 0, .ref (1000 + 16 * np + 1), .int (-1), .int (-1), .int (-1), o, .null]) ∧ o = wV (wlA (mPlot M np (nI q) x y w) np)) (hch : ChI G' (1000 + 16 * np) w) (h5 : G' (1005 + 16 * np) = none) : CH G' (mPlot M np (nI q) x y w) (np + 1) := by
  have e3 : mPlot M np (nI q) x y w 3 = upd (M 3) np (nI q) := rfl
  have h67 := hI.2.2.2.2 np (Nat.le_refl _)
  refine ⟨⟨?_, ?_⟩, hL, ⟨?_, fun s hs => ⟨?_, ?_, ?_⟩⟩, hC.sh.fr (fun a x => hG a (by omega) (by omega) (by omega) (by omega) (by omega)), hC.br.fr (fun a x => hG a (by omega) (by omega) (by omega) (by omega) (by omega)), hC.ct.fr (fun a x => hG a (by omega) (by omega) (by omega) (by omega) (by omega)) rfl rfl rfl rfl, hC.sv.fr (fun a x => hG a (by omega) (by omega) (by omega) (by omega) (by omega)), fun p hp => ?_, ⟨fun a u v => ?_, ?_⟩⟩
  · rw [hG _ (by omega) (by omega) (by omega) (by omega) (by omega)]; exact hC.root.1
  · rw [hG _ (by omega) (by omega) (by omega) (by omega) (by omega)]; exact hC.root.2
  · rw [hG _ (by omega) (by omega) (by omega) (by omega) (by omega)]; exact hC.str.1
  · rw [hG _ (by omega) (by omega) (by omega) (by omega) (by omega)]; exact (hC.str.2 s hs).1
  · rw [hG _ (by omega) (by omega) (by omega) (by omega) (by omega)]; exact (hC.str.2 s hs).2.1
  · rw [strL_s, strL_below (M := M) (nI s) (fun i hi => by rw [e3, upd_ne (by omega)]), e3, upd_eq]
    by_cases c : s = q
    · subst c; rw [if_pos rfl]; exact hR
    · rw [if_neg (fun z => c (nI_inj (by omega) (by omega) z.symm))]
      exact (hC.str.2 s hs).2.2.fr hs (fun a x => hG a (by omega) (by omega) (by omega) (by omega) (by omega))
  · by_cases c : p = np
    · subst c
      have hz : zM (mPlot M p (nI q) x y w) p = 1 := by
        have : zM (mPlot M p (nI q) x y w) p = 0 + 1 := zM_of (by show ¬ (M 6 p = 2 ∨ M 6 p = 3); rw [h67.1]; decide) (show M 7 p = nI 0 from h67.2) (by omega)
        exact this
      have hnx : nxt (mPlot M p (nI q) x y w) (p + 1) p = -1 := nxt_none (fun j h1 h2 => absurd h1 (by omega))
      obtain ⟨o, o1, o2⟩ := hw
      obtain ⟨c1, c2, c3, c4⟩ := hch
      refine ⟨?_, ⟨upd (fun _ => 0) 0 w, upd (fun _ => 0) 0 99, fun _ => 0, ?_, ?_, ?_, ?_, fun j hj => ?_⟩, ⟨fun _ => ⟨h5, ?_⟩, fun b hb e => ?_⟩⟩
      · rw [o1, o2]
        unfold plO
        rw [show wV (wlB (mPlot M p (nI q) x y w) (p + 1) p) = .null by unfold wlB; rw [if_pos hnx]; rfl]
        have f4 : mPlot M p (nI q) x y w 4 p = x := by show upd (M 4) p x p = x; exact upd_eq
        have f5 : mPlot M p (nI q) x y w 5 p = y := by show upd (M 5) p y p = y; exact upd_eq
        have f6 : mPlot M p (nI q) x y w 6 p = 0 := h67.1
        have f11 : mPlot M p (nI q) x y w 11 p = -1 := by show upd (M 11) p (-1) p = -1; exact upd_eq
        have f12 : mPlot M p (nI q) x y w 12 p = -1 := by show upd (M 12) p (-1) p = -1; exact upd_eq
        have f13 : mPlot M p (nI q) x y w 13 p = -1 := by show upd (M 13) p (-1) p = -1; exact upd_eq
        rw [f4, f5, f6, f11, f12, f13, show 1000 + 16 * p + 1 = 1001 + 16 * p by omega]
      · rw [hz, show 1001 + 16 * p = 1000 + 16 * p + 1 by omega, c1, show 1000 + 16 * p + 2 = 1002 + 16 * p by omega, show 1000 + 16 * p + 3 = 1003 + 16 * p by omega, show 1000 + 16 * p + 4 = 1004 + 16 * p by omega]
        rfl
      · rw [show 1002 + 16 * p = 1000 + 16 * p + 2 by omega]; exact c2
      · rw [show 1003 + 16 * p = 1000 + 16 * p + 3 by omega]; exact c3
      · rw [show 1004 + 16 * p = 1000 + 16 * p + 4 by omega]; exact c4
      · have : j = 0 := by omega
        subst this
        refine ⟨?_, ?_, rfl⟩
        · show _ = upd (M 8) (4 * p) w (4 * p + 0); rw [upd_eq]; exact upd_eq.symm
        · show _ = upd (M 9) (4 * p) 99 (4 * p + 0); rw [upd_eq]; exact upd_eq.symm
      · show upd (M 14) p (-1) p = -1; exact upd_eq
      · exact absurd (hnx.symm.trans e) (fun z => nI_nm1 (by omega) z.symm)
    · exact hpl p (by omega)
  · rw [hG a (by omega) (by omega) (by omega) (by omega) (by omega)]; exact hC.fre.1 a (by omega) v
  · obtain ⟨J, j1, j2⟩ := hC.fre.2
    exact ⟨J, j1, fun a ha => by rw [hG a (by omega) (by omega) (by omega) (by omega) (by omega)]; exact j2 a ha⟩
theorem c_af_plot {s z w : Int32} (hC : CH G M np) (hI : INV M np)
    (h0 : ¬ ((∃ q, q < 6 ∧ s = nI q) ∧ (∃ q, q < 20 ∧ w = nI q) ∧ (10 ≤ z / 1000 ∧ z / 1000 ≤ 60) ∧ (20 ≤ z - z / 1000 * 1000 ∧ z - z / 1000 * 1000 ≤ 100) ∧ np ≠ 24 ∧ onS M s np ≠ 8) → ∀ G', CH G' M np → FrC G G' → Q (some (.int (-1))) G')
    (h1 : ∀ q o, q < 6 → s = nI q → o < 20 → w = nI o → (10 ≤ z / 1000 ∧ z / 1000 ≤ 60) → (20 ≤ z - z / 1000 * 1000 ∧ z - z / 1000 * 1000 ≤ 100) → np < 24 → onS M s np ≠ 8 → ∀ G', CH G' (mPlot M np s (z / 1000) (z - z / 1000 * 1000) w) (np + 1) → FrC G G' → Q (some (.int (nI np))) G') : A 8 M_af_plot 0 [some (.ref 20), some (.int s), some (.int z), some (.int w), none, none, none, none] [] G 8 110 Q := by
  have hw := hI.1
  have hr := hC.root.1
  have h24 := hw.2.1
  obtain ⟨m, hl⟩ := hC.list.1
  have main : ∀ q, q < 6 → s = nI q → np < 24 → ((strL M s np).length = 8 → ∀ G', CH G' M np → FrC G G' → Q (some (.int (-1))) G') → ((strL M s np).length < 8 → ∀ G', CH G' (mPlot M np s (z / 1000) (z - z / 1000 * 1000) w) (np + 1) → FrC G G' → Q (some (.int (nI np))) G') → A 8 M_af_plot 71 [some (.ref 20), some (.int s), some (.int z), some (.int w), some (.ref (40 + q)), some (.int (z / 1000)), some (.int (z - z / 1000 * 1000)), none] [] G 8 110 Q := by
    intro q hq hs hn h0 h1
    obtain ⟨s1, s2, s3⟩ := hC.str.2 q hq
    rw [← hs] at s3
    have hlen : (strL M s np).length ≤ 8 := by rw [hs]; exact hI.2.1.2.2 q hq
    by_cases c : (strL M s np).length = 8
    · obtain ⟨J, j1, j2⟩ := hC.fre.2
      obtain ⟨⟨m', r1⟩, -⟩ := s3
      rw [c] at r1
      refine A.new (a := J) n_af_93 d_af_plot_71 (by first | decide | omega) (j2 J (Nat.le_refl _)) (kc' := 7) (ks' := 101) (Nat.le_of_ble_eq_true rfl) (Nat.le_of_ble_eq_true rfl) ?_
      refine A.dup rfl d_af_plot_74 ?_
      refine A.iload rfl d_af_plot_75 ?_
      refine A.iload rfl d_af_plot_77 ?_
      refine A.iload_k 3 rfl rfl d_af_plot_79 ?_
      refine A.callIa3 s_af_95 (Nat.le_of_ble_eq_true rfl) (Nat.le_of_ble_eq_true rfl) (Nat.le_of_ble_eq_true rfl) d_af_plot_80 (kc1 := 4) (ks1 := 16) (kc2 := 3) (ks2 := 85) (Nat.le_of_ble_eq_true rfl) (Nat.le_of_ble_eq_true rfl) rfl (c_pl_init (by omega) up_s ((up_n (by omega)).trans (j2 _ (by omega))) ((up_n (by omega)).trans (j2 _ (by omega))) ((up_n (by omega)).trans (j2 _ (by omega))) ((up_n (by omega)).trans (j2 _ (by omega))) (fun G1 g1 g2 g3 => ?_))
      dsimp only [psh]
      refine A.astore (Nat.le_of_ble_eq_true rfl) rfl rfl d_af_plot_83 ?_
      dsimp only [List.set]
      refine A.aload rfl rfl d_af_plot_85 ?_
      refine A.aload rfl rfl d_af_plot_87 ?_
      refine A.callVa1 s_af_98 ?_ (Nat.le_of_ble_eq_true rfl) (Nat.le_of_ble_eq_true rfl) (Nat.le_of_ble_eq_true rfl) d_af_plot_89 (kc1 := 2) (ks1 := 44) (kc2 := 1) (ks2 := 41) (Nat.le_of_ble_eq_true rfl) (Nat.le_of_ble_eq_true rfl) rfl (c_sr_append0 ((g3 _ (by omega)).trans (up_e (by omega) s1)) ((g3 _ (by omega)).trans (up_e (by omega) r1)) ?_)
      · apply Exists.intro
        exact (g3 _ (by omega)).trans (up_e (by omega) s1)
      dsimp only [psh]
      refine A.if_ne0 d_af_plot_92 (tgt := 97) (by decide) ?_
      refine A.iconst (v := -1) rfl d_af_plot_95 ?_
      refine A.iret d_af_plot_96 rfl ?_
      refine h0 c _ (hC.junk hw (fun a ha => (g3 a (by omega)).trans (up_n (by omega))) ⟨J + 5, by omega, fun a ha => (g3 a (by omega)).trans ((up_n (by omega)).trans (j2 a (by omega)))⟩) (fun a ha => (g3 a (by omega)).trans (up_n (by omega)))
    · have fr : ∀ i, i < 6 → G (1000 + 16 * np + i) = none := fun i hi => hC.fre.1 _ (by omega) (by omega)
      refine A.new (a := 1000 + 16 * np) n_af_93 d_af_plot_71 (by first | decide | omega) (fr 0 (by omega)) (kc' := 7) (ks' := 101) (Nat.le_of_ble_eq_true rfl) (Nat.le_of_ble_eq_true rfl) ?_
      refine A.dup rfl d_af_plot_74 ?_
      refine A.iload rfl d_af_plot_75 ?_
      refine A.iload rfl d_af_plot_77 ?_
      refine A.iload_k 3 rfl rfl d_af_plot_79 ?_
      refine A.callIa3 s_af_95 (Nat.le_of_ble_eq_true rfl) (Nat.le_of_ble_eq_true rfl) (Nat.le_of_ble_eq_true rfl) d_af_plot_80 (kc1 := 4) (ks1 := 16) (kc2 := 3) (ks2 := 85) (Nat.le_of_ble_eq_true rfl) (Nat.le_of_ble_eq_true rfl) rfl (c_pl_init (by omega) up_s ((up_n (by omega)).trans (fr 1 (by omega))) ((up_n (by omega)).trans (fr 2 (by omega))) ((up_n (by omega)).trans (fr 3 (by omega))) ((up_n (by omega)).trans (fr 4 (by omega))) (fun G1 g1 g2 g3' => ?_))
      dsimp only [psh]
      skip
      have g3 : ∀ a, (a < 1000 + 16 * np ∨ 1000 + 16 * np + 4 < a) → G1 a = G a := fun a ha => (g3' a ha).trans (up_n (by omega))
      clear g3'
      have s3' : RwO G1 (strL M s np) q := s3.fr hq (fun a x => g3 a (by omega))
      have e3 : mPlot M np (nI q) (z / 1000) (z - z / 1000 * 1000) w 3 = upd (M 3) np (nI q) := rfl
      have e3b : ∀ i, i < np → mPlot M np (nI q) (z / 1000) (z - z / 1000 * 1000) w 3 i = M 3 i := fun i hi => by rw [e3, upd_ne (by omega)]
      rcases strL_last M s np with ⟨k1, k2⟩ | ⟨b, k0, k1, k2, k3, k4⟩
      · skip
        refine A.astore (Nat.le_of_ble_eq_true rfl) rfl rfl d_af_plot_83 ?_
        dsimp only [List.set]
        refine A.aload rfl rfl d_af_plot_85 ?_
        refine A.aload rfl rfl d_af_plot_87 ?_
        refine A.callVa1 s_af_98 ?_ (Nat.le_of_ble_eq_true rfl) (Nat.le_of_ble_eq_true rfl) (Nat.le_of_ble_eq_true rfl) d_af_plot_89 (kc1 := 2) (ks1 := 44) (kc2 := 1) (ks2 := 41) (Nat.le_of_ble_eq_true rfl) (Nat.le_of_ble_eq_true rfl) rfl (c_sr_append (L := strL M s np) (n := np) (u0 := .null) (u1 := .null) (u2 := .null) (u3 := .null) (u4 := .null) (u5 := .null) (u6 := .null) (u7 := .null) (u8 := .null) hq ((g3 _ (by omega)).trans s1) s3' (by omega) g1 (fun z => absurd z (by omega)) (fun _ G2 t1 t2 => ?_) (fun b z => absurd z (by omega)))
        · apply Exists.intro
          exact (g3 _ (by omega)).trans s1
        dsimp only [psh]
        refine A.if_ne1 97 (by decide) d_af_plot_92 ?_
        have hr2 : G2 20 = some (rtO M) := (t2 _ (by omega) (by omega)).trans ((g3 _ (by omega)).trans hr)
        have hl2 : G2 22 = _ := (t2 _ (by omega) (by omega)).trans ((g3 _ (by omega)).trans hl)
        refine A.aload_k 0 rfl rfl rfl d_af_plot_97 ?_
        apply A.getfield f_af_16 d_af_plot_98
        · repeat first | assumption | exact up_s | refine up_e (by first | decide | omega) ?_
        · rfl
        refine A.aload rfl rfl d_af_plot_101 ?_
        refine A.callVa1 s_af_102 ?_ (Nat.le_of_ble_eq_true rfl) (Nat.le_of_ble_eq_true rfl) (Nat.le_of_ble_eq_true rfl) d_af_plot_103 (kc1 := 1) (ks1 := 40) (kc2 := 0) (ks2 := 1) (Nat.le_of_ble_eq_true rfl) (Nat.le_of_ble_eq_true rfl) rfl (c_al_addL (hC.list.fr (fun a x => (t2 a (by omega) (by omega)).trans (g3 a (by omega)))) hn (fun j hj => ⟨_, (t2 _ (by omega) (by omega)).trans ((g3 _ (by omega)).trans (hC.pl hj).1)⟩) ((t2 _ (by omega) (by omega)).trans g1) (fun G3 l1 l2 => ?_))
        · apply Exists.intro
          repeat first | assumption | exact up_s | refine up_e (by first | decide | omega) ?_
        dsimp only [psh]
        refine A.pop rfl d_af_plot_106 ?_
        have hr3 : G3 20 = some (rtO M) := (l2 _ (by omega) (by omega)).trans hr2
        obtain ⟨m3, hl3⟩ := l1.1
        refine A.aload_k 0 rfl rfl rfl d_af_plot_107 ?_
        apply A.getfield f_af_16 d_af_plot_108
        · repeat first | assumption | exact up_s | refine up_e (by first | decide | omega) ?_
        · rfl
        refine A.callV0 s_af_89 ?_ (Nat.le_of_ble_eq_true rfl) (Nat.le_of_ble_eq_true rfl) (Nat.le_of_ble_eq_true rfl) d_af_plot_111 rfl (c_al_size (by repeat first | assumption | exact up_s | refine up_e (by first | decide | omega) ?_) ?_)
        · apply Exists.intro
          repeat first | assumption | exact up_s | refine up_e (by first | decide | omega) ?_
        dsimp only [psh]
        refine A.iconst (v := 1) rfl d_af_plot_114 ?_
        refine A.isub d_af_plot_115 ?_
        refine A.iret d_af_plot_116 rfl ?_
        rw [nI_pred]
        subst hs
        have all : ∀ a, a ≠ 22 → (a < 80 ∨ 83 < a) → a ≠ 46 + q → a ≠ 70 + q → (a < 1000 + 16 * np ∨ 1000 + 16 * np + 4 < a) → G3 a = G a := fun a x1 x2 x3 x4 x5 => (l2 a x1 x2).trans ((t2 a x3 x4).trans (g3 a x5))
        refine h1 (by omega) _ (hC.new hI hn hq (fun a x1 x2 x3 x4 x5 => all a x1 x2 x3 x4 (by omega)) l1 (t1.fr hq (fun a x => l2 a (by omega) (by omega))) (fun p hp => (hC.pl hp).grow (hw.zle p) hp h24 (fun a x y => all a (by omega) (by omega) (by omega) (by omega) (by omega)) (fun k hk => mPlot_1 (by omega) (by omega) (by omega)) (fun k j x y v => mPlot_2 x y (by omega)) (nxt_new1 hp e3 (fun v => k2 p hp v.1)) (befM_below (fun i hi => e3b i (by omega)) p (Nat.le_refl _))) ⟨.null, (l2 _ (by omega) (by omega)).trans ((t2 _ (by omega) (by omega)).trans g1), ?_⟩ ⟨(l2 _ (by omega) (by omega)).trans ((t2 _ (by omega) (by omega)).trans g2.1), (l2 _ (by omega) (by omega)).trans ((t2 _ (by omega) (by omega)).trans g2.2.1), (l2 _ (by omega) (by omega)).trans ((t2 _ (by omega) (by omega)).trans g2.2.2.1), (l2 _ (by omega) (by omega)).trans ((t2 _ (by omega) (by omega)).trans g2.2.2.2)⟩ ((all _ (by omega) (by omega) (by omega) (by omega) (by omega)).trans (hC.fre.1 _ (by omega) (by omega)))) (fun a ha => all a (by omega) (by omega) (by omega) (by omega) (by omega))
        unfold wlA
        rw [bef_new1 e3 k2, if_pos rfl]
        rfl
      · have hb := hC.pl k2
        subst hs
        obtain ⟨n1, n2⟩ := nxt_new2 (M' := mPlot M np (nI q) (z / 1000) (z - z / 1000 * 1000) w) k2 e3 k3 k4
        have hbf := bef_new2 (M' := mPlot M np (nI q) (z / 1000) (z - z / 1000 * 1000) w) k2 e3 k3 k4
        have hb1 : G (1000 + 16 * b) = some (plO M np b) := hb.1
        unfold plO at hb1
        refine A.astore (Nat.le_of_ble_eq_true rfl) rfl rfl d_af_plot_83 ?_
        dsimp only [List.set]
        refine A.aload rfl rfl d_af_plot_85 ?_
        refine A.aload rfl rfl d_af_plot_87 ?_
        refine A.callVa1 s_af_98 ?_ (Nat.le_of_ble_eq_true rfl) (Nat.le_of_ble_eq_true rfl) (Nat.le_of_ble_eq_true rfl) d_af_plot_89 (kc1 := 2) (ks1 := 44) (kc2 := 1) (ks2 := 41) (Nat.le_of_ble_eq_true rfl) (Nat.le_of_ble_eq_true rfl) rfl (c_sr_append (L := strL M (nI q) np) (n := np) hq ((g3 _ (by omega)).trans s1) s3' (by omega) g1 (fun _ => by rw [k1]; exact ⟨(g3 _ (by omega)).trans hb1, (g3 _ (by omega)).trans (hb.2.2.1 n1).1, by omega⟩) (fun v => absurd v (by omega)) (fun b' _ k1' G2 t1 w1 w2 w3 t2 => ?_))
        · apply Exists.intro
          exact (g3 _ (by omega)).trans s1
        dsimp only [psh]
        refine A.if_ne1 97 (by decide) d_af_plot_92 ?_
        obtain rfl : b' = b := k1'.symm.trans k1
        have hr2 : G2 20 = some (rtO M) := (t2 _ (by omega) (by omega) (by omega) (by omega) (by omega)).trans ((g3 _ (by omega)).trans hr)
        have hl2 : G2 22 = _ := (t2 _ (by omega) (by omega) (by omega) (by omega) (by omega)).trans ((g3 _ (by omega)).trans hl)
        refine A.aload_k 0 rfl rfl rfl d_af_plot_97 ?_
        apply A.getfield f_af_16 d_af_plot_98
        · repeat first | assumption | exact up_s | refine up_e (by first | decide | omega) ?_
        · rfl
        refine A.aload rfl rfl d_af_plot_101 ?_
        refine A.callVa1 s_af_102 ?_ (Nat.le_of_ble_eq_true rfl) (Nat.le_of_ble_eq_true rfl) (Nat.le_of_ble_eq_true rfl) d_af_plot_103 (kc1 := 1) (ks1 := 40) (kc2 := 0) (ks2 := 1) (Nat.le_of_ble_eq_true rfl) (Nat.le_of_ble_eq_true rfl) rfl (c_al_addL (hC.list.fr (fun a x => (t2 a (by omega) (by omega) (by omega) (by omega) (by omega)).trans (g3 a (by omega)))) hn (fun j hj => by
            by_cases e : j = b'
            · subst e; exact ⟨_, w2⟩
            · exact ⟨_, (t2 _ (by omega) (by omega) (by omega) (by omega) (by omega)).trans ((g3 _ (by omega)).trans (hC.pl hj).1)⟩) w3 (fun G3 l1 l2 => ?_))
        · apply Exists.intro
          repeat first | assumption | exact up_s | refine up_e (by first | decide | omega) ?_
        dsimp only [psh]
        refine A.pop rfl d_af_plot_106 ?_
        have hr3 : G3 20 = some (rtO M) := (l2 _ (by omega) (by omega)).trans hr2
        obtain ⟨m3, hl3⟩ := l1.1
        refine A.aload_k 0 rfl rfl rfl d_af_plot_107 ?_
        apply A.getfield f_af_16 d_af_plot_108
        · repeat first | assumption | exact up_s | refine up_e (by first | decide | omega) ?_
        · rfl
        refine A.callV0 s_af_89 ?_ (Nat.le_of_ble_eq_true rfl) (Nat.le_of_ble_eq_true rfl) (Nat.le_of_ble_eq_true rfl) d_af_plot_111 rfl (c_al_size (by repeat first | assumption | exact up_s | refine up_e (by first | decide | omega) ?_) ?_)
        · apply Exists.intro
          repeat first | assumption | exact up_s | refine up_e (by first | decide | omega) ?_
        dsimp only [psh]
        refine A.iconst (v := 1) rfl d_af_plot_114 ?_
        refine A.isub d_af_plot_115 ?_
        refine A.iret d_af_plot_116 rfl ?_
        rw [nI_pred]
        have all : ∀ a, a ≠ 22 → (a < 80 ∨ 83 < a) → a ≠ 46 + q → a ≠ 70 + q → (a < 1000 + 16 * np ∨ 1000 + 16 * np + 4 < a) → a ≠ 1005 + 16 * b' → a ≠ 1000 + 16 * b' → G3 a = G a := fun a x1 x2 x3 x4 x5 x6 x7 => (l2 a x1 x2).trans ((t2 a x3 x4 x6 x7 (by omega)).trans (g3 a x5))
        have f14 : mPlot M np (nI q) (z / 1000) (z - z / 1000 * 1000) w 14 b' = -1 := (mPlot_1 (by omega) (by omega) (by omega)).trans (hb.2.2.1 n1).2
        refine h1 (by omega) _ (hC.new hI hn hq (fun a x1 x2 x3 x4 x5 => all a x1 x2 x3 x4 (by omega) (by omega) (by omega)) l1 (t1.fr hq (fun a x => l2 a (by omega) (by omega))) (fun p hp => ?_) ⟨.ref (1005 + 16 * b'), (l2 _ (by omega) (by omega)).trans w3, ?_⟩ ⟨(l2 _ (by omega) (by omega)).trans ((t2 _ (by omega) (by omega) (by omega) (by omega) (by omega)).trans g2.1), (l2 _ (by omega) (by omega)).trans ((t2 _ (by omega) (by omega) (by omega) (by omega) (by omega)).trans g2.2.1), (l2 _ (by omega) (by omega)).trans ((t2 _ (by omega) (by omega) (by omega) (by omega) (by omega)).trans g2.2.2.1), (l2 _ (by omega) (by omega)).trans ((t2 _ (by omega) (by omega) (by omega) (by omega) (by omega)).trans g2.2.2.2)⟩ ((all _ (by omega) (by omega) (by omega) (by omega) (by omega) (by omega) (by omega)).trans (hC.fre.1 _ (by omega) (by omega)))) (fun a ha => all a (by omega) (by omega) (by omega) (by omega) (by omega) (by omega) (by omega))
        · by_cases e : p = b'
          · subst e
            refine ⟨?_, hb.2.1.fr (fun a x y => all a (by omega) (by omega) (by omega) (by omega) (by omega) (by omega) (by omega)) (Or.inl (mPlot_1 (by omega) (by omega) (by omega))) (mPlot_1 (by omega) (by omega) (by omega)) (fun j hj => ⟨mPlot_2 (by omega) (by omega) (by have := hw.zle p; omega), mPlot_2 (by omega) (by omega) (by have := hw.zle p; omega), mPlot_2 (by omega) (by omega) (by have := hw.zle p; omega)⟩), ⟨fun v => absurd (n2.symm.trans v) (nI_nm1 (by omega)), fun b2 hb2 e2 => ?_⟩⟩
            · rw [(l2 _ (by omega) (by omega)).trans w2]
              have q1 : wV (wlA (mPlot M np (nI q) (z / 1000) (z - z / 1000 * 1000) w) p) = wV (wlA M p) := by
                unfold wlA
                rw [befM_below (M := M) (fun i hi => e3b i (by omega)) p (Nat.le_refl _)]
                split <;> rfl
              have q2 : wV (wlB (mPlot M np (nI q) (z / 1000) (z - z / 1000 * 1000) w) (np + 1) p) = .ref (1005 + 16 * p) := by
                unfold wlB
                rw [if_neg (fun v => nI_nm1 (by omega) (n2.symm.trans v))]
                rfl
              unfold plO
              rw [q1, q2, mPlot_1 (k := 4) (by omega) (by omega) (by omega), mPlot_1 (k := 5) (by omega) (by omega) (by omega), mPlot_1 (k := 6) (by omega) (by omega) (by omega), mPlot_1 (k := 11) (by omega) (by omega) (by omega), mPlot_1 (k := 12) (by omega) (by omega) (by omega), mPlot_1 (k := 13) (by omega) (by omega) (by omega)]
            · have : np = b2 := nI_inj (by omega) (by omega) (n2.symm.trans e2)
              subst this
              rw [f14]
              exact ⟨0, (l2 _ (by omega) (by omega)).trans w1, fun v => absurd rfl v⟩
          · refine (hC.pl hp).grow (hw.zle p) hp h24 (fun a x y => all a (by omega) (by omega) (by omega) (by omega) (by omega) (by omega) (by omega)) (fun k hk => mPlot_1 (by omega) (by omega) (by omega)) (fun k j x y v => mPlot_2 x y (by omega)) (nxt_new1 hp e3 (fun v => ?_)) (befM_below (fun i hi => e3b i (by omega)) p (Nat.le_refl _))
            rcases Nat.lt_trichotomy p b' with y | y | y
            · exact v.2 b' y k2 k3
            · exact e y
            · exact k4 p y hp v.1
        · unfold wlA
          rw [hbf, if_neg (nI_nm1 (by omega)), hN_nI (by omega)]
          rfl
  refine A.aload_k 0 rfl rfl rfl d_af_plot_0 ?_
  refine A.iload_k 1 rfl rfl d_af_plot_1 ?_
  refine A.callV1 s_af_85 ?_ (Nat.le_of_ble_eq_true rfl) (Nat.le_of_ble_eq_true rfl) (Nat.le_of_ble_eq_true rfl) d_af_plot_2 rfl (c_af_streetAt hC (fun s hs hx => ?_) (fun q0 => ?_))
  · apply Exists.intro
    repeat first | assumption | exact up_s | refine up_e (by first | decide | omega) ?_
  · dsimp only [psh]
    refine A.astore (Nat.le_of_ble_eq_true rfl) rfl rfl d_af_plot_5 ?_
    dsimp only [List.set]
    refine A.iload_k 2 rfl rfl d_af_plot_7 ?_
    refine A.sipush (v := 1000) rfl d_af_plot_8 ?_
    refine A.idiv (by decide) d_af_plot_11 ?_
    refine A.istore (Nat.le_of_ble_eq_true rfl) rfl d_af_plot_12 ?_
    dsimp only [List.set]
    refine A.iload_k 2 rfl rfl d_af_plot_14 ?_
    refine A.sipush (v := 1000) rfl d_af_plot_15 ?_
    refine A.irem (by decide) d_af_plot_18 ?_
    refine A.istore (Nat.le_of_ble_eq_true rfl) rfl d_af_plot_19 ?_
    dsimp only [List.set]
    refine A.aload rfl rfl d_af_plot_21 ?_
    refine A.ifnull_r d_af_plot_23 ?_
    refine A.iload_k 3 rfl rfl d_af_plot_26 ?_
    refine A.callS1 s_af_71 (Nat.le_of_ble_eq_true rfl) (Nat.le_of_ble_eq_true rfl) (Nat.le_of_ble_eq_true rfl) d_af_plot_27 rfl (c_af_isPerson (fun o j1 j2 => ?_) (fun j3 => ?_))
    · dsimp only [psh]
      refine A.if_eq1 d_af_plot_30 (tgt := 69) (by decide) ?_
      refine A.aload_k 0 rfl rfl rfl d_af_plot_33 ?_
      apply A.getfield f_af_16 d_af_plot_34
      · repeat first | assumption | exact up_s | refine up_e (by first | decide | omega) ?_
      · rfl
      refine A.callV0 s_af_89 ?_ (Nat.le_of_ble_eq_true rfl) (Nat.le_of_ble_eq_true rfl) (Nat.le_of_ble_eq_true rfl) d_af_plot_37 rfl (c_al_size (by repeat first | assumption | exact up_s | refine up_e (by first | decide | omega) ?_) ?_)
      · apply Exists.intro
        repeat first | assumption | exact up_s | refine up_e (by first | decide | omega) ?_
      dsimp only [psh]
      refine A.bipush (v := 24) rfl d_af_plot_40 ?_
      refine A.icmp_ge 69 (by decide) d_af_plot_42 (fun c42 => ?_) (fun c42 => ?_)
      · refine A.iconst (v := -1) rfl d_af_plot_69 ?_
        refine A.iret d_af_plot_70 rfl ?_
        refine h0 (fun z => ?_) _ hC FrC.rf
        first | exact z.1.elim (fun q hq => q0 q hq.1 hq.2) | exact z.2.1.elim (fun q hq => j3 q hq.1 hq.2) | exact a3 z.2.2.1 | exact b3 z.2.2.2.1 | exact z.2.2.2.2.1 (by have := (nI_leI (a := 24) (by omega) (by omega)).mp c42; omega)
      · refine A.iload rfl d_af_plot_45 ?_
        refine A.bipush (v := 10) rfl d_af_plot_47 ?_
        refine A.bipush (v := 60) rfl d_af_plot_49 ?_
        refine A.callS3 s_af_76 (Nat.le_of_ble_eq_true rfl) (Nat.le_of_ble_eq_true rfl) (Nat.le_of_ble_eq_true rfl) d_af_plot_51 rfl (c_af_within (fun a1 a2 => ?_) (fun a3 => ?_))
        · dsimp only [psh]
          refine A.if_eq1 d_af_plot_54 (tgt := 69) (by decide) ?_
          refine A.iload rfl d_af_plot_57 ?_
          refine A.bipush (v := 20) rfl d_af_plot_59 ?_
          refine A.bipush (v := 100) rfl d_af_plot_61 ?_
          refine A.callS3 s_af_76 (Nat.le_of_ble_eq_true rfl) (Nat.le_of_ble_eq_true rfl) (Nat.le_of_ble_eq_true rfl) d_af_plot_63 rfl (c_af_within (fun b1 b2 => ?_) (fun b3 => ?_))
          · dsimp only [psh]
            refine A.if_ne1 71 (by decide) d_af_plot_66 ?_
            have hlt : np < 24 := Nat.lt_of_not_le (fun v => c42 (nI_le (a := 24) v (by omega)))
            exact main s hs hx hlt (fun k G' g1 g2 => h0 (fun v => v.2.2.2.2.2 (by rw [onS_len, k]; rfl)) G' g1 g2) (fun k G' g1 g2 => h1 s o hs hx j1 j2 ⟨a1, a2⟩ ⟨b1, b2⟩ hlt (by rw [onS_len]; intro v; have := nI_inj (b := 8) (by omega) (by omega) v; omega) G' g1 g2)
          · dsimp only [psh]
            refine A.if_ne0 d_af_plot_66 (tgt := 71) (by decide) ?_
            refine A.iconst (v := -1) rfl d_af_plot_69 ?_
            refine A.iret d_af_plot_70 rfl ?_
            refine h0 (fun z => ?_) _ hC FrC.rf
            first | exact z.1.elim (fun q hq => q0 q hq.1 hq.2) | exact z.2.1.elim (fun q hq => j3 q hq.1 hq.2) | exact a3 z.2.2.1 | exact b3 z.2.2.2.1 | exact z.2.2.2.2.1 (by have := (nI_leI (a := 24) (by omega) (by omega)).mp c42; omega)
        · dsimp only [psh]
          refine A.if_eq0 69 (by decide) d_af_plot_54 ?_
          refine A.iconst (v := -1) rfl d_af_plot_69 ?_
          refine A.iret d_af_plot_70 rfl ?_
          refine h0 (fun z => ?_) _ hC FrC.rf
          first | exact z.1.elim (fun q hq => q0 q hq.1 hq.2) | exact z.2.1.elim (fun q hq => j3 q hq.1 hq.2) | exact a3 z.2.2.1 | exact b3 z.2.2.2.1 | exact z.2.2.2.2.1 (by have := (nI_leI (a := 24) (by omega) (by omega)).mp c42; omega)
    · dsimp only [psh]
      refine A.if_eq0 69 (by decide) d_af_plot_30 ?_
      refine A.iconst (v := -1) rfl d_af_plot_69 ?_
      refine A.iret d_af_plot_70 rfl ?_
      refine h0 (fun z => ?_) _ hC FrC.rf
      first | exact z.1.elim (fun q hq => q0 q hq.1 hq.2) | exact z.2.1.elim (fun q hq => j3 q hq.1 hq.2) | exact a3 z.2.2.1 | exact b3 z.2.2.2.1 | exact z.2.2.2.2.1 (by have := (nI_leI (a := 24) (by omega) (by omega)).mp c42; omega)
  · dsimp only [psh]
    refine A.astore (Nat.le_of_ble_eq_true rfl) rfl rfl d_af_plot_5 ?_
    dsimp only [List.set]
    refine A.iload_k 2 rfl rfl d_af_plot_7 ?_
    refine A.sipush (v := 1000) rfl d_af_plot_8 ?_
    refine A.idiv (by decide) d_af_plot_11 ?_
    refine A.istore (Nat.le_of_ble_eq_true rfl) rfl d_af_plot_12 ?_
    dsimp only [List.set]
    refine A.iload_k 2 rfl rfl d_af_plot_14 ?_
    refine A.sipush (v := 1000) rfl d_af_plot_15 ?_
    refine A.irem (by decide) d_af_plot_18 ?_
    refine A.istore (Nat.le_of_ble_eq_true rfl) rfl d_af_plot_19 ?_
    dsimp only [List.set]
    refine A.aload rfl rfl d_af_plot_21 ?_
    refine A.ifnull_0 69 (by decide) d_af_plot_23 ?_
    refine A.iconst (v := -1) rfl d_af_plot_69 ?_
    refine A.iret d_af_plot_70 rfl ?_
    refine h0 (fun z => ?_) _ hC FrC.rf
    first | exact z.1.elim (fun q hq => q0 q hq.1 hq.2) | exact z.2.1.elim (fun q hq => j3 q hq.1 hq.2) | exact a3 z.2.2.1 | exact b3 z.2.2.2.1 | exact z.2.2.2.2.1 (by have := (nI_leI (a := 24) (by omega) (by omega)).mp c42; omega)
end AF7
