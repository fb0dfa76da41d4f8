/-! THE COMPONENT: what its cells hold, told by the state M of the reference -/
section COURT
variable {M M' : MS} {G G' : AHp} {kc ks np : Nat} {Q : Option Value → AHp → Prop}
def elN (n : Nat) : Nat := if n = 0 then 1 else if n ≤ 10 then 80 else if n ≤ 15 then 81 else if n ≤ 22 then 82 else 83
def cpN (n : Nat) : Nat := if n ≤ 10 then 10 else if n ≤ 15 then 15 else if n ≤ 22 then 22 else 33
theorem elN_pos {n : Nat} (h : 0 < n) : 80 ≤ elN n ∧ elN n ≤ 83 := by
  unfold elN
  split
  · omega
  · split
    · omega
    · split
      · omega
      · split <;> omega
theorem cpN_le {n : Nat} (h : n ≤ 24) : n ≤ cpN n ∧ cpN n ≤ 33 := by
  unfold cpN
  split
  · omega
  · split
    · omega
    · split <;> omega
def rtO (M : MS) : ACell := oB 0 [.ref 21, .ref 22, .ref 23, .ref 24, .ref 25, .ref 26, .ref 27, .int (M 0 0), .int (M 16 0), .int (M 17 0), .int (M 18 0), .int (M 23 0)]
def RootC (G : AHp) (M : MS) : Prop := G 20 = some (rtO M) ∧ G 21 = some (aI 20 (M 1))
def ListC (G : AHp) (np : Nat) : Prop := (∃ m : Int32, G 22 = some (oB 10 [.int m, .ref (elN np), .int (nI np)])) ∧ (0 < np → ∃ f, G (elN np) = some (aO (cpN np) f) ∧ ∀ j, j < np → f j = some (1000 + 16 * j)) ∧ ∀ a, elN np < a → 80 ≤ a → a ≤ 83 → G a = none
def RwO (G : AHp) (L : List Nat) (q : Nat) : Prop := (∃ m : Int32, G (46 + q) = some (oB 10 [.int m, .ref (if L.length = 0 then 1 else 70 + q), .int (nI L.length)])) ∧ (0 < L.length → ∃ f, G (70 + q) = some (aO 10 f) ∧ ∀ k, k < L.length → f k = some (1000 + 16 * L.getD k 0)) ∧ (L.length = 0 → G (70 + q) = none)
def StO (G : AHp) (M : MS) (np q : Nat) : Prop := G (40 + q) = some (oB 7 [.ref (46 + q), .ref (52 + q)]) ∧ (∃ g, G (52 + q) = some (aI 7 g) ∧ ∀ k, k < 7 → g k = M 24 (8 * q + k)) ∧ RwO G (strL M (nI q) np) q
def StrC (G : AHp) (M : MS) (np : Nat) : Prop := (∃ f, G 23 = some (aR (.object "AfterFire$Street") 6 f) ∧ ∀ q, q < 6 → f q = some (40 + q)) ∧ ∀ q, q < 6 → StO G M np q
def ShC (G : AHp) : Prop := G 24 = some (oB 6 [.ref 28, .ref 29]) ∧ (∃ P, G 28 = some (aI 4 P)) ∧ ∃ C, G 29 = some (aL 4 C)
def BrC (G : AHp) : Prop := (∃ x y z : Int32, G 25 = some (oB 2 [.ref 30, .ref 31, .ref 32, .ref 33, .ref 34, .int x, .int y, .int z])) ∧ (∀ k, k < 4 → ∃ f, G (30 + k) = some (aI 12 f)) ∧ ∃ f, G 34 = some (aI 13 f)
/-- the first c works are paid whole, no other -/
def CtF (M : MS) (c nw : Nat) : Prop := M 19 0 = nI nw ∧ nw ≤ 20 ∧ c ≤ nw ∧ (∀ w, w < c → M 20 w = 0) ∧ (∀ w, c ≤ w → w < nw → ∃ u, 1 ≤ u ∧ u ≤ 10000 ∧ M 20 w = nI u)
def CtC (G : AHp) (M : MS) : Prop := ∃ c nw, G 26 = some (oB 4 [.ref 35, .int (M 19 0), .int (nI c), .int (M 22 0), .int (M 21 0)]) ∧ (∃ u, G 35 = some (aI 20 u) ∧ ∀ w, c ≤ w → w < nw → u w = M 20 w) ∧ CtF M c nw
def SvC (G : AHp) : Prop := G 27 = some (oB 8 [.ref 36]) ∧ (∃ f, G 36 = some (aR (.array .int) 8 f) ∧ ∀ i, i < 8 → f i = some (60 + i)) ∧ ∀ i, i < 8 → ∃ g, G (60 + i) = some (aI 301 g)
/-- the plot behind -/
def nxt (M : MS) (np p : Nat) : Int32 := behM M p (np - (p + 1)) (p + 1)
def wlA (M : MS) (p : Nat) : Option (Nat × Int32) := if befM M p p = -1 then none else some (1005 + 16 * hN (befM M p p), M 14 (hN (befM M p p)))
def wlB (M : MS) (np p : Nat) : Option (Nat × Int32) := if nxt M np p = -1 then none else some (1005 + 16 * p, M 14 p)
def gone (M : MS) (p : Nat) : Prop := M 6 p = 2 ∨ M 6 p = 3
def zM (M : MS) (p : Nat) : Nat := if M 6 p = 2 ∨ M 6 p = 3 then 0 else hN (M 7 p) + 1
def ChO (G : AHp) (M : MS) (p : Nat) : Prop := ∃ P Y R, G (1001 + 16 * p) = some (oB 3 [.ref (1002 + 16 * p), .ref (1003 + 16 * p), .ref (1004 + 16 * p), .int (nI (zM M p))]) ∧ G (1002 + 16 * p) = some (aI 4 P) ∧ G (1003 + 16 * p) = some (aI 4 Y) ∧ G (1004 + 16 * p) = some (aI 4 R) ∧ ∀ j, j < zM M p → P j = M 8 (4 * p + j) ∧ Y j = M 9 (4 * p + j) ∧ R j = if j = 0 then 0 else M 10 (4 * p + j)
def plO (M : MS) (np p : Nat) : ACell := oB 5 [.int (M 4 p), .int (M 5 p), .int (M 6 p), .ref (1001 + 16 * p), .int (M 11 p), .int (M 12 p), .int (M 13 p), wV (wlA M p), wV (wlB M np p)]
def WlO (G : AHp) (M : MS) (np p : Nat) : Prop := (nxt M np p = -1 → G (1005 + 16 * p) = none ∧ M 14 p = -1) ∧ (∀ b, b < np → nxt M np p = nI b → ∃ x, G (1005 + 16 * p) = some (oB 9 [.ref (1000 + 16 * p), .ref (1000 + 16 * b), .int x, .int (M 14 p)]) ∧ (M 14 p ≠ -1 → x = M 15 p))
def PlO (G : AHp) (M : MS) (np p : Nat) : Prop := G (1000 + 16 * p) = some (plO M np p) ∧ ChO G M p ∧ WlO G M np p
def FreC (G : AHp) (np : Nat) : Prop := (∀ a, 1000 + 16 * np ≤ a → a < 2000 → G a = none) ∧ ∃ J, 2000 ≤ J ∧ ∀ a, J ≤ a → G a = none
def CH (G : AHp) (M : MS) (np : Nat) : Prop := RootC G M ∧ ListC G np ∧ StrC G M np ∧ ShC G ∧ BrC G ∧ CtC G M ∧ SvC G ∧ (∀ p, p < np → PlO G M np p) ∧ FreC G np
def FrC (G G' : AHp) : Prop := ∀ a, (a = 2 ∨ (100 ≤ a ∧ a < 300)) → G' a = G a
theorem FrC.rf : FrC G G := fun _ _ => rfl
theorem FrC.tr {G'' : AHp} (h : FrC G G') (k : FrC G' G'') : FrC G G'' := fun a ha => (k a ha).trans (h a ha)
theorem FrC.up {b : Nat} {c : ACell} (h : FrC G G') (h1 : b ≠ 2) (h2 : b < 100 ∨ 300 ≤ b) : FrC G (up G' b c) := fun a ha => (up_n (by omega)).trans (h a ha)
theorem CH.root (h : CH G M np) : RootC G M := h.1
theorem CH.list (h : CH G M np) : ListC G np := h.2.1
theorem CH.str (h : CH G M np) : StrC G M np := h.2.2.1
theorem CH.sh (h : CH G M np) : ShC G := h.2.2.2.1
theorem CH.br (h : CH G M np) : BrC G := h.2.2.2.2.1
theorem CH.ct (h : CH G M np) : CtC G M := h.2.2.2.2.2.1
theorem CH.sv (h : CH G M np) : SvC G := h.2.2.2.2.2.2.1
theorem CH.pl (h : CH G M np) {p : Nat} (hp : p < np) : PlO G M np p := h.2.2.2.2.2.2.2.1 p hp
theorem CH.fre (h : CH G M np) : FreC G np := h.2.2.2.2.2.2.2.2
theorem ListC.fr (h : ListC G np) (hn : ∀ a, (a = 22 ∨ 80 ≤ a ∧ a ≤ 83) → G' a = G a) : ListC G' np := by
  refine ⟨?_, fun h0 => ?_, fun a h1 h2 h3 => ?_⟩
  · rw [hn 22 (by omega)]; exact h.1
  · have := elN_pos h0
    rw [hn _ (by omega)]
    exact h.2.1 h0
  · rw [hn a (by omega)]; exact h.2.2 a h1 h2 h3
theorem RwO.fr {L : List Nat} {q : Nat} (hq : q < 6) (h : RwO G L q) (hn : ∀ a, (a = 46 + q ∨ a = 70 + q) → G' a = G a) : RwO G' L q := by
  refine ⟨?_, fun h0 => ?_, fun h0 => ?_⟩
  · rw [hn _ (by omega)]; exact h.1
  · rw [hn _ (by omega)]; exact h.2.1 h0
  · rw [hn _ (by omega)]; exact h.2.2 h0
theorem strL_congr (h : M' 3 = M 3) (s : Int32) : ∀ n, strL M' s n = strL M s n
  | 0 => rfl
  | n + 1 => by unfold strL; rw [h, strL_congr h s n]
theorem StO.fr {q : Nat} (hq : q < 6) (h : StO G M np q) (hn : ∀ a, (a = 23 ∨ 40 ≤ a ∧ a ≤ 57 ∨ 70 ≤ a ∧ a ≤ 75) → G' a = G a) (h3 : M' 3 = M 3) (h24 : M' 24 = M 24) : StO G' M' np q := by
  refine ⟨?_, ?_, ?_⟩
  · rw [hn _ (by omega)]; exact h.1
  · rw [hn _ (by omega), h24]; exact h.2.1
  · rw [strL_congr h3]; exact h.2.2.fr hq (fun a x => hn a (by omega))
theorem StrC.fr (h : StrC G M np) (hn : ∀ a, (a = 23 ∨ 40 ≤ a ∧ a ≤ 57 ∨ 70 ≤ a ∧ a ≤ 75) → G' a = G a) (h3 : M' 3 = M 3) (h24 : M' 24 = M 24) : StrC G' M' np := ⟨by rw [hn _ (by omega)]; exact h.1, fun q hq => (h.2 q hq).fr hq hn h3 h24⟩
theorem ShC.fr (h : ShC G) (hn : ∀ a, (a = 24 ∨ a = 28 ∨ a = 29) → G' a = G a) : ShC G' := by
  unfold ShC
  rw [hn 24 (by omega), hn 28 (by omega), hn 29 (by omega)]
  exact h
theorem BrC.fr (h : BrC G) (hn : ∀ a, (a = 25 ∨ 30 ≤ a ∧ a ≤ 34) → G' a = G a) : BrC G' := by
  unfold BrC
  rw [hn 25 (by omega), hn 34 (by omega)]
  exact ⟨h.1, fun k hk => by rw [hn _ (by omega)]; exact h.2.1 k hk, h.2.2⟩
theorem CtC.fr (h : CtC G M) (hn : ∀ a, (a = 26 ∨ a = 35) → G' a = G a) (h19 : M' 19 = M 19) (h20 : M' 20 = M 20) (h21 : M' 21 = M 21) (h22 : M' 22 = M 22) : CtC G' M' := by
  unfold CtC CtF
  rw [hn 26 (by omega), hn 35 (by omega), h19, h20, h21, h22]
  exact h
theorem SvC.fr (h : SvC G) (hn : ∀ a, (a = 27 ∨ a = 36 ∨ 60 ≤ a ∧ a ≤ 67) → G' a = G a) : SvC G' := by
  unfold SvC
  rw [hn 27 (by omega), hn 36 (by omega)]
  exact ⟨h.1, h.2.1, fun k hk => by rw [hn _ (by omega)]; exact h.2.2 k hk⟩
theorem FreC.fr (h : FreC G np) (hn : ∀ a, 1000 + 16 * np ≤ a → G' a = G a) (h24 : np ≤ 24) : FreC G' np := by
  obtain ⟨h1, J, h2, h3⟩ := h
  exact ⟨fun a ha hb => (hn a ha).trans (h1 a ha hb), J, h2, fun a ha => (hn a (by omega)).trans (h3 a ha)⟩
/-- the fields of M that the cells of the plot p tell -/
def sameP (M M' : MS) (p : Nat) : Prop := (∀ k, (4 ≤ k ∧ k ≤ 7 ∨ 11 ≤ k ∧ k ≤ 15) → M' k p = M k p) ∧ (∀ k j, 8 ≤ k → k ≤ 10 → j < 4 → M' k (4 * p + j) = M k (4 * p + j)) ∧ M' 3 = M 3 ∧ ∀ q, M' 14 q = -1 ↔ M 14 q = -1
theorem PlO.fr {p : Nat} (h : PlO G M np p) (hz : zM M p ≤ 4) (hn : ∀ a, 1000 + 16 * p ≤ a → a < 1016 + 16 * p → G' a = G a) (h1 : ∀ k, (4 ≤ k ∧ k ≤ 7 ∨ 11 ≤ k ∧ k ≤ 15) → M' k p = M k p) (h2 : ∀ k j, 8 ≤ k → k ≤ 10 → j < 4 → M' k (4 * p + j) = M k (4 * p + j)) (h3 : M' 3 = M 3) : PlO G' M' np p := by
  have hnx : nxt M' np p = nxt M np p := by unfold nxt; rw [behM_congr h3]
  have hbf : befM M' p p = befM M p p := befM_congr h3 p p
  have hzz : zM M' p = zM M p := by unfold zM; rw [h1 6 (by omega), h1 7 (by omega)]
  refine ⟨?_, ?_, ?_⟩
  · rw [hn _ (by omega) (by omega), h.1]
    have e1 : wV (wlA M' p) = wV (wlA M p) := by
      unfold wlA
      rw [hbf]
      split <;> rfl
    have e2 : wV (wlB M' np p) = wV (wlB M np p) := by
      unfold wlB
      rw [hnx]
      split <;> rfl
    unfold plO
    rw [h1 4 (by omega), h1 5 (by omega), h1 6 (by omega), h1 11 (by omega), h1 12 (by omega), h1 13 (by omega), e1, e2]
  · obtain ⟨P, Y, R, a1, a2, a3, a4, a5⟩ := h.2.1
    refine ⟨P, Y, R, ?_, ?_, ?_, ?_, fun j hj => ?_⟩
    · rw [hn _ (by omega) (by omega), hzz]; exact a1
    · rw [hn _ (by omega) (by omega)]; exact a2
    · rw [hn _ (by omega) (by omega)]; exact a3
    · rw [hn _ (by omega) (by omega)]; exact a4
    · rw [hzz] at hj
      rw [h2 8 j (by omega) (by omega) (by omega), h2 9 j (by omega) (by omega) (by omega), h2 10 j (by omega) (by omega) (by omega)]
      exact a5 j hj
  · have h := h.2.2
    unfold WlO at h ⊢
    rw [hnx, hn _ (by omega) (by omega), h1 14 (by omega), h1 15 (by omega)]
    exact h
/-- only purses, the root's fields and plots have changed -/
theorem CH.mk1 (h : CH G M np) (h24 : np ≤ 24) (hr : RootC G' M') (hp : ∀ p, p < np → PlO G' M' np p) (hn : ∀ a, (22 ≤ a ∧ a < 100) ∨ 1000 + 16 * np ≤ a → G' a = G a) (h3 : M' 3 = M 3) (h19 : M' 19 = M 19) (h20 : M' 20 = M 20) (h21 : M' 21 = M 21) (h22 : M' 22 = M 22) (hst : M' 24 = M 24) : CH G' M' np :=
  ⟨hr, h.list.fr (fun a x => hn a (by omega)), h.str.fr (fun a x => hn a (by omega)) h3 hst, h.sh.fr (fun a x => hn a (by omega)), h.br.fr (fun a x => hn a (by omega)), h.ct.fr (fun a x => hn a (by omega)) h19 h20 h21 h22, h.sv.fr (fun a x => hn a (by omega)), hp, h.fre.fr (fun a x => hn a (Or.inr x)) h24⟩
theorem CH.frM (h : CH G M np) (hf : FrM G G') (h24 : np ≤ 24) (hz : ∀ p, p < np → zM M p ≤ 4) : CH G' M np :=
  h.mk1 h24 ⟨(hf _ (by omega)).trans h.root.1, (hf _ (by omega)).trans h.root.2⟩ (fun p hp => (h.pl hp).fr (hz p hp) (fun a x y => hf a (by omega)) (fun _ _ => rfl) (fun _ _ _ _ _ => rfl) rfl) (fun a x => hf a (by omega)) rfl rfl rfl rfl rfl rfl
theorem WF.zle (h : WF M np) (p : Nat) : zM M p ≤ 4 := by
  obtain ⟨l, h1, h2⟩ := h.2.2.1 p
  unfold zM
  rw [h2, hN_nI (by omega)]
  split <;> omega
end COURT
