/-! the component: new plots, on -/
section AF6
variable {M M' S : MS} {G G' : AHp} {kc ks np : Nat} {Q : Option Value → AHp → Prop}
theorem strL_last (M : MS) (s : Int32) : ∀ n, ((strL M s n).length = 0 ∧ ∀ i, i < n → M 3 i ≠ s) ∨ ∃ b, 0 < (strL M s n).length ∧ (strL M s n).getD ((strL M s n).length - 1) 0 = b ∧ b < n ∧ M 3 b = s ∧ ∀ i, b < i → i < n → M 3 i ≠ s
  | 0 => Or.inl ⟨rfl, fun i hi => absurd hi (by omega)⟩
  | n + 1 => by
    rw [strL_s]
    by_cases h : M 3 n = s
    · rw [if_pos h]
      refine Or.inr ⟨n, by rw [List.length_append]; show 0 < _ + 1; omega, ?_, by omega, h, fun i h1 h2 => by omega⟩
      rw [List.length_append, List.getD_eq_getElem?_getD, List.getElem?_append_right (by show _ ≤ _ + 1 - 1; omega)]
      show ([n][_ + 1 - 1 - _]?).getD 0 = n
      rw [Nat.add_sub_cancel, Nat.sub_self]
      rfl
    · rw [if_neg h]
      rcases strL_last M s n with ⟨e, h1⟩ | ⟨b, h0, h1, h2, h3, h4⟩
      · exact Or.inl ⟨e, fun i hi => by
          by_cases e2 : i = n
          · subst e2; exact h
          · exact h1 i (by omega)⟩
      · exact Or.inr ⟨b, h0, h1, by omega, h3, fun i k1 k2 => by
          by_cases e2 : i = n
          · subst e2; exact h
          · exact h4 i k1 (by omega)⟩
theorem strL_below {n : Nat} (s : Int32) (h : ∀ i, i < n → M' 3 i = M 3 i) : strL M' s n = strL M s n := by
  induction n with
  | zero => rfl
  | succ n ih => rw [strL_s, strL_s, h n (by omega), ih (fun i hi => h i (by omega))]
theorem onS_len (M : MS) (s : Int32) : ∀ n, onS M s n = nI (strL M s n).length
  | 0 => rfl
  | n + 1 => by
    unfold onS
    rw [strL_s, onS_len M s n]
    by_cases h : M 3 n = s
    · rw [if_pos h, if_pos h, nI_1, List.length_append]; rfl
    · rw [if_neg h, if_neg h, Int32.add_zero]
theorem befM_below {p : Nat} (h : ∀ i, i ≤ p → M' 3 i = M 3 i) : ∀ n, n ≤ p → befM M' p n = befM M p n
  | 0, _ => rfl
  | n + 1, hn => by unfold befM; rw [h n (by omega), h p (by omega), befM_below h n (by omega)]
/-- a plot when a later plot comes to another street -/
theorem PlO.grow {p : Nat} (h : PlO G M np p) (hz : zM M p ≤ 4) (hp : p < np) (h24 : np ≤ 24) (hn : ∀ a, 1000 + 16 * p ≤ a → a < 1016 + 16 * p → G' a = G a) (h1 : ∀ k, (4 ≤ k ∧ k ≤ 7 ∨ 11 ≤ k ∧ k ≤ 15) → M' k p = M k p) (h2 : ∀ k j, 8 ≤ k → k ≤ 10 → j < 4 → M' k (4 * p + j) = M k (4 * p + j)) (hnx : nxt M' (np + 1) p = nxt M np p) (hbf : befM M' p p = befM M p p) : PlO G' M' (np + 1) p := by
  have hzz : zM M' p = zM M p := by unfold zM; rw [h1 6 (by omega), h1 7 (by omega)]
  refine ⟨?_, ?_, ?_⟩
  · rw [hn _ (by omega) (by omega), h.1]
    have e1 : wV (wlA M' p) = wV (wlA M p) := by
      unfold wlA
      rw [hbf]
      split <;> rfl
    have e2 : wV (wlB M' (np + 1) p) = wV (wlB M np p) := by
      unfold wlB
      rw [hnx]
      split <;> rfl
    unfold plO
    rw [h1 4 (by omega), h1 5 (by omega), h1 6 (by omega), h1 11 (by omega), h1 12 (by omega), h1 13 (by omega), e1, e2]
  · exact h.2.1.fr (fun a x y => hn a (by omega) (by omega)) (Or.inl (h1 6 (by omega))) (h1 7 (by omega)) (fun j hj => ⟨h2 8 j (by omega) (by omega) (by omega), h2 9 j (by omega) (by omega) (by omega), h2 10 j (by omega) (by omega) (by omega)⟩)
  · obtain ⟨w1, w2⟩ := h.2.2
    unfold WlO
    rw [hnx, hn _ (by omega) (by omega), h1 14 (by omega), h1 15 (by omega)]
    refine ⟨w1, fun b hb e => ?_⟩
    rcases nxt_in (M := M) hp with c | ⟨b', c1, c2⟩
    · exact absurd (c.symm.trans e) (fun z => nI_nm1 (by omega) z.symm)
    · have : b' = b := nI_inj (by omega) (by omega) (c2.symm.trans e)
      subst this
      exact w2 b' c1.2 e
theorem CH.junk (h : CH G M np) (hw : WF M np) (hG : ∀ a, a < 2000 → G' a = G a) (hJ : ∃ J, 2000 ≤ J ∧ ∀ a, J ≤ a → G' a = none) : CH G' M np :=
  ⟨⟨(hG _ (by omega)).trans h.root.1, (hG _ (by omega)).trans h.root.2⟩, h.list.fr (fun a x => hG a (by omega)), h.str.fr (fun a x => hG a (by omega)) rfl rfl, h.sh.fr (fun a x => hG a (by omega)), h.br.fr (fun a x => hG a (by omega)), h.ct.fr (fun a x => hG a (by omega)) rfl rfl rfl rfl, h.sv.fr (fun a x => hG a (by omega)), fun p hp => (h.pl hp).fr (hw.zle p) (fun a x y => hG a (by have := hw.2.1; omega)) (fun _ _ => rfl) (fun _ _ _ _ _ => rfl) rfl, fun a x y => (hG a y).trans (h.fre.1 a x y), hJ⟩
/-- a plot comes to a street -/
theorem c_sr_append {q n : Nat} {L : List Nat} {u u0 u1 u2 u3 u4 u5 u6 u7 u8 v0 v1 v2 v3 v4 v5 v6 v7 v8 : Value} (hq : q < 6) (hs : G (40 + q) = some (oB 7 [.ref (46 + q), u])) (hR : RwO G L q) (hL8 : L.length < 8) (hP : G (1000 + 16 * n) = some (oB 5 [v0, v1, v2, v3, v4, v5, v6, v7, v8])) (hb : 0 < L.length → G (1000 + 16 * L.getD (L.length - 1) 0) = some (oB 5 [u0, u1, u2, u3, u4, u5, u6, u7, u8]) ∧ G (1005 + 16 * L.getD (L.length - 1) 0) = none ∧ L.getD (L.length - 1) 0 ≠ n)
    (h1 : L.length = 0 → ∀ G', RwO G' (L ++ [n]) q → (∀ a, a ≠ 46 + q → a ≠ 70 + q → G' a = G a) → Q (some (.int 1)) G')
    (h2 : ∀ b, 0 < L.length → L.getD (L.length - 1) 0 = b → ∀ G', RwO G' (L ++ [n]) q → G' (1005 + 16 * b) = some (oB 9 [.ref (1000 + 16 * b), .ref (1000 + 16 * n), .int 0, .int (-1)]) → G' (1000 + 16 * b) = some (oB 5 [u0, u1, u2, u3, u4, u5, u6, u7, .ref (1005 + 16 * b)]) → G' (1000 + 16 * n) = some (oB 5 [v0, v1, v2, v3, v4, v5, v6, .ref (1005 + 16 * b), v8]) → (∀ a, a ≠ 46 + q → a ≠ 70 + q → a ≠ 1005 + 16 * b → a ≠ 1000 + 16 * b → a ≠ 1000 + 16 * n → G' a = G a) → Q (some (.int 1)) G') : A 7 M_sr_append 0 [some (.ref (40 + q)), some (.ref (1000 + 16 * n)), none, none] [] G 2 44 Q := by
  obtain ⟨⟨m, r1⟩, r2, r3⟩ := hR
  have hlen : (L ++ [n]).length = L.length + 1 := List.length_append
  by_cases c : L.length = 0
  · rw [c, if_pos rfl] at r1
    refine c_sr_append1 hs r1 (r3 c) hP (h1 c _ ⟨⟨m + 1, ?_⟩, fun _ => ⟨_, up_e (by omega) up_s, fun k hk => ?_⟩, fun z => absurd z (by omega)⟩ (fun a x y => (up_n x).trans (up_n y)))
    · rw [hlen, c]; exact up_s
    · have : k = 0 := by omega
      subst this
      have : L = [] := List.length_eq_zero_iff.mp c
      subst this
      rfl
  · rw [if_neg c] at r1
    obtain ⟨f, f1, f2⟩ := r2 (by omega)
    obtain ⟨b1, b2, b3⟩ := hb (by omega)
    refine c_sr_append2 (W := 1005 + 16 * L.getD (L.length - 1) 0) hq (by omega) hL8 hs r1 f1 (f2 (L.length - 1) (by omega)) b1 hP b2 (by omega) (by omega) (by omega) (by omega) (h2 _ (by omega) rfl _ ⟨⟨m + 1, ?_⟩, fun _ => ⟨_, up_e (by omega) up_s, fun k hk => ?_⟩, fun z => absurd z (by omega)⟩ ?_ ?_ ?_ (fun a x y z w v => ?_))
    · rw [hlen, if_neg (by omega)]; exact up_s
    · by_cases e : k = L.length
      · subst e
        rw [List.getD_eq_getElem?_getD, List.getElem?_append_right (Nat.le_refl _), Nat.sub_self]
        exact if_pos rfl
      · rw [List.getD_eq_getElem?_getD, List.getElem?_append_left (by omega), ← List.getD_eq_getElem?_getD]
        exact (if_neg e).trans (f2 k (by omega))
    · repeat first | exact up_s | refine up_e (by omega) ?_
    · repeat first | exact up_s | refine up_e (by omega) ?_
    · repeat first | exact up_s | refine up_e (by omega) ?_
    · rw [up_n x, up_n y, up_n v, up_n w, up_n z]
end AF6
