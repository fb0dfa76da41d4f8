/-! each operation: the same answer, the same state -/
section OPS
variable {M S : MS} {C : Nat → Int64} {G : AHp} {np : Nat}
theorem MH.frC {G' : AHp} (h : MH G M S C) (hf : FrC G G') : MH G' M S C := by
  have hk : ∀ k, (mArr k = true ∨ sArr k = true) → k < 100 := fun k hk => by
    rcases hk with z | z
    · unfold mArr at z; split at z <;> first | omega | cases z
    · unfold sArr at z; split at z <;> first | omega | cases z
  refine ⟨(hf _ (by omega)).trans h.1, fun k z => (hf _ (by have := hk k (Or.inl z); omega)).trans (h.2.1 k z), fun k z => (hf _ (by have := hk k (Or.inr z); omega)).trans (h.2.2.1 k z), (hf _ (by omega)).trans h.2.2.2⟩
/-- both sides of an operation; y, z: its methods, la, lm: what they begin with -/
def OP (G : AHp) (M : MS) (da dm kc ks : Nat) (y z : MI) (la lm : List (Option Value)) : Prop := ∃ r M' np', INV M' np' ∧ own M' np' ∧ (∀ Q : Option Value → AHp → Prop, (∀ G1, CH G1 M' np' → FrC G G1 → Q (some (.int r)) G1) → A da y 0 la [] G kc ks Q) ∧ ∀ (G1 : AHp) (S : MS) (C : Nat → Int64), MH G1 M S C → ∀ Q : Option Value → AHp → Prop, (∀ G2 S' C', MH G2 M' S' C' → FrM G1 G2 → Q (some (.int r)) G2) → A dm z 0 lm [] G1 0 0 Q
theorem op_coins {x n : Int32} (hC : CH G M np) (hI : INV M np) (ho : own M np) : OP G M 3 1 0 0 M_af_coins M_md_coins [some (.ref 20), some (.int x), some (.int n)] [some (.ref 100), some (.int x), some (.int n)] := by
  by_cases c : (∃ q, q < 20 ∧ x = nI q) ∧ 1 ≤ n ∧ n ≤ 100000
  · obtain ⟨⟨q, q1, q2⟩, c2, c3⟩ := c
    refine ⟨M 1 q + n, va_up M 1 (upd (M 1) q (M 1 q + n)), np, hI.up (by decide), ho, fun Q h => c_af_coins hC hI.1 (fun z => absurd ⟨⟨q, q1, q2⟩, c2, c3⟩ z) (fun q' a1 a2 a3 a4 G1 b1 b2 => ?_), fun G1 S C hM Q h => c_md_coins hM (fun z => absurd ⟨⟨q, q1, q2⟩, c2, c3⟩ z) (fun q' a1 a2 a3 a4 G2 b1 b2 => ?_)⟩
    · obtain rfl : q' = q := nI_inj (by omega) (by omega) (a2.symm.trans q2)
      exact h G1 b1 b2
    · obtain rfl : q' = q := nI_inj (by omega) (by omega) (a2.symm.trans q2)
      exact h G2 S C b1 b2
  · exact ⟨_, M, np, hI, ho, fun Q h => c_af_coins hC hI.1 (fun _ => h G hC FrC.rf) (fun q' a1 a2 a3 a4 => absurd ⟨⟨q', a1, a2⟩, a3, a4⟩ c), fun G1 S C hM Q h => c_md_coins hM (fun _ => h G1 S C hM FrM.rf) (fun q' a1 a2 a3 a4 => absurd ⟨⟨q', a1, a2⟩, a3, a4⟩ c)⟩
theorem op_has {x : Int32} (hC : CH G M np) (hI : INV M np) (ho : own M np) : OP G M 2 1 0 0 M_af_has M_md_has [some (.ref 20), some (.int x)] [some (.ref 100), some (.int x)] := by
  by_cases c : ∃ q, q < 20 ∧ x = nI q
  · obtain ⟨q, q1, q2⟩ := c
    refine ⟨M 1 q, M, np, hI, ho, fun Q h => c_af_has hC (fun z => absurd q2 (z q q1)) (fun q' a1 a2 => ?_), fun G1 S C hM Q h => c_md_has hM (fun z => absurd q2 (z q q1)) (fun q' a1 a2 => ?_)⟩
    · obtain rfl : q' = q := nI_inj (by omega) (by omega) (a2.symm.trans q2)
      exact h G hC FrC.rf
    · obtain rfl : q' = q := nI_inj (by omega) (by omega) (a2.symm.trans q2)
      exact h G1 S C hM FrM.rf
  · exact ⟨_, M, np, hI, ho, fun Q h => c_af_has hC (fun _ => h G hC FrC.rf) (fun q' a1 a2 => absurd ⟨q', a1, a2⟩ c), fun G1 S C hM Q h => c_md_has hM (fun _ => h G1 S C hM FrM.rf) (fun q' a1 a2 => absurd ⟨q', a1, a2⟩ c)⟩
theorem op_rates {a b c : Int32} (hC : CH G M np) (hI : INV M np) (ho : own M np) : OP G M 2 1 0 0 M_af_rates M_md_rates [some (.ref 20), some (.int a), some (.int b), some (.int c)] [some (.ref 100), some (.int a), some (.int b), some (.int c)] := by
  by_cases k : (1 ≤ a ∧ a ≤ 9) ∧ (1 ≤ b ∧ b ≤ 9) ∧ (0 ≤ c ∧ c ≤ 60)
  · exact ⟨1, mRates M a b c, np, hI.rates k.1 k.2.2, ho, fun Q h => c_af_rates hC hI.1 (fun z => absurd k z) (fun _ _ _ G1 b1 b2 => h G1 b1 b2), fun G1 S C hM Q h => c_md_rates hM (fun z => absurd k z) (fun _ _ _ G2 b1 b2 => h G2 S C b1 b2)⟩
  · exact ⟨0, M, np, hI, ho, fun Q h => c_af_rates hC hI.1 (fun _ => h G hC FrC.rf) (fun a1 a2 a3 => absurd ⟨a1, a2, a3⟩ k), fun G1 S C hM Q h => c_md_rates hM (fun _ => h G1 S C hM FrM.rf) (fun a1 a2 a3 => absurd ⟨a1, a2, a3⟩ k)⟩
theorem op_worth {x : Int32} (hC : CH G M np) (hI : INV M np) (ho : own M np) : OP G M 4 2 0 0 M_af_worth M_md_worth [some (.ref 20), some (.int x), none] [some (.ref 100), some (.int x)] := by
  have h24 := hI.1.2.1
  by_cases c : ∃ q, q < np ∧ x = nI q
  · obtain ⟨q, q1, q2⟩ := c
    refine ⟨wthM M q, M, np, hI, ho, fun Q h => c_af_worth hC h24 (fun q' a1 a2 => ?_) (fun z => absurd q2 (z q q1)), fun G1 S C hM Q h => c_md_worth hM hI.1.1 h24 (fun q' a1 a2 => ?_) (fun z => absurd q2 (z q q1))⟩
    · obtain rfl : q' = q := nI_inj (by omega) (by omega) (a2.symm.trans q2)
      exact h G hC FrC.rf
    · obtain rfl : q' = q := nI_inj (by omega) (by omega) (a2.symm.trans q2)
      exact h G1 S C hM FrM.rf
  · exact ⟨_, M, np, hI, ho, fun Q h => c_af_worth hC h24 (fun q' a1 a2 => absurd ⟨q', a1, a2⟩ c) (fun _ => h G hC FrC.rf), fun G1 S C hM Q h => c_md_worth hM hI.1.1 h24 (fun q' a1 a2 => absurd ⟨q', a1, a2⟩ c) (fun _ => h G1 S C hM FrM.rf)⟩
theorem op_due {x v : Int32} (hC : CH G M np) (hI : INV M np) (ho : own M np) : OP G M 4 2 0 0 M_af_due M_md_due [some (.ref 20), some (.int x), some (.int v), none] [some (.ref 100), some (.int x), some (.int v)] := by
  have h24 := hI.1.2.1
  by_cases c : (∃ p, p < np ∧ x = nI p) ∧ 0 ≤ v ∧ v ≤ 60
  · have c' := c
    obtain ⟨⟨q, q1, q2⟩, c2, c3⟩ := c
    refine ⟨1, va_up M 13 (upd (M 13) q v), np, hI.due ⟨c2, c3⟩, ho, fun Q h => c_af_due hC hI.1 (fun z => absurd c' z) (fun q' a1 a2 _ _ G1 b1 b2 => ?_), fun G1 S C hM Q h => c_md_due hM hI.1 (fun z => absurd c' z) (fun q' a1 a2 _ _ G2 b1 b2 => ?_)⟩
    · obtain rfl : q' = q := nI_inj (by omega) (by omega) (a2.symm.trans q2)
      exact h G1 b1 b2
    · obtain rfl : q' = q := nI_inj (by omega) (by omega) (a2.symm.trans q2)
      exact h G2 S C b1 b2
  · exact ⟨0, M, np, hI, ho, fun Q h => c_af_due hC hI.1 (fun _ => h G hC FrC.rf) (fun q' a1 a2 a3 a4 => absurd ⟨⟨q', a1, a2⟩, a3, a4⟩ c), fun G1 S C hM Q h => c_md_due hM hI.1 (fun _ => h G1 S C hM FrM.rf) (fun q' a1 a2 a3 a4 => absurd ⟨⟨q', a1, a2⟩, a3, a4⟩ c)⟩
theorem op_tax {v : Int32} (hC : CH G M np) (hI : INV M np) (ho : own M np) : OP G M 1 1 0 0 M_af_tax M_md_tax [some (.ref 20), some (.int v)] [some (.ref 100), some (.int v)] := by
  by_cases k : 0 ≤ v ∧ v ≤ 5000
  · exact ⟨1, va_up M 21 (fun _ => v), np, hI.tax k, ho, fun Q h => c_af_tax hC hI.1 (fun z => absurd k z) (fun _ _ G1 b1 b2 => h G1 b1 b2), fun G1 S C hM Q h => c_md_tax hM (fun z => absurd k z) (fun _ _ G2 b1 b2 => h G2 S C b1 b2)⟩
  · exact ⟨0, M, np, hI, ho, fun Q h => c_af_tax hC hI.1 (fun _ => h G hC FrC.rf) (fun a1 a2 => absurd ⟨a1, a2⟩ k), fun G1 S C hM Q h => c_md_tax hM (fun _ => h G1 S C hM FrM.rf) (fun a1 a2 => absurd ⟨a1, a2⟩ k)⟩
theorem op_works {v : Int32} (hC : CH G M np) (hI : INV M np) (ho : own M np) : OP G M 1 1 0 0 M_af_works M_md_works [some (.ref 20), some (.int v)] [some (.ref 100), some (.int v)] := by
  obtain ⟨nw, n1, n2⟩ := hI.1.2.2.2.2.2
  by_cases k : (1 ≤ v ∧ v ≤ 10000) ∧ nw ≠ 20
  · exact ⟨nI nw, va_up (va_up M 20 (upd (M 20) nw v)) 19 (fun _ => nI (nw + 1)), np, hI.works (by omega), ho, fun Q h => c_af_works hC hI.1 n2 n1 (fun z => absurd k z) (fun _ _ _ G1 b1 b2 => h G1 b1 b2), fun G1 S C hM Q h => c_md_works hM n2 n1 (fun z => absurd k z) (fun _ _ _ G2 b1 b2 => h G2 S C b1 b2)⟩
  · exact ⟨_, M, np, hI, ho, fun Q h => c_af_works hC hI.1 n2 n1 (fun _ => h G hC FrC.rf) (fun a1 a2 a3 => absurd ⟨⟨a1, a2⟩, by omega⟩ k), fun G1 S C hM Q h => c_md_works hM n2 n1 (fun _ => h G1 S C hM FrM.rf) (fun a1 a2 a3 => absurd ⟨⟨a1, a2⟩, by omega⟩ k)⟩
theorem op_stake {x k v : Int32} (hC : CH G M np) (hI : INV M np) (ho : own M np) : OP G M 2 2 0 0 M_af_stake M_md_stake [some (.ref 20), some (.int x), some (.int k), some (.int v), none] [some (.ref 100), some (.int x), some (.int k), some (.int v)] := by
  by_cases c : (∃ q, q < 6 ∧ x = nI q) ∧ (∃ j, j < 7 ∧ k = nI j) ∧ -1 ≤ v ∧ v ≤ 300
  · have c' := c
    obtain ⟨⟨q, q1, q2⟩, ⟨j, j1, j2⟩, c2⟩ := c
    refine ⟨1, va_up M 24 (upd (M 24) (8 * q + j) v), np, hI.stake c2, ho, fun Q h => c_af_stake hC hI.1 (fun z => absurd c' z) (fun q' j' a1 a2 a3 a4 _ _ G1 b1 b2 => ?_), fun G1 S C hM Q h => c_md_stake hM (fun z => absurd c' z) (fun q' j' a1 a2 a3 a4 _ _ G2 b1 b2 => ?_)⟩
    · obtain rfl : q' = q := nI_inj (by omega) (by omega) (a2.symm.trans q2)
      obtain rfl : j' = j := nI_inj (by omega) (by omega) (a4.symm.trans j2)
      exact h G1 b1 b2
    · obtain rfl : q' = q := nI_inj (by omega) (by omega) (a2.symm.trans q2)
      obtain rfl : j' = j := nI_inj (by omega) (by omega) (a4.symm.trans j2)
      exact h G2 S C b1 b2
  · exact ⟨0, M, np, hI, ho, fun Q h => c_af_stake hC hI.1 (fun _ => h G hC FrC.rf) (fun q' j' a1 a2 a3 a4 a5 a6 => absurd ⟨⟨q', a1, a2⟩, ⟨j', a3, a4⟩, a5, a6⟩ c), fun G1 S C hM Q h => c_md_stake hM (fun _ => h G1 S C hM FrM.rf) (fun q' j' a1 a2 a3 a4 a5 a6 => absurd ⟨⟨q', a1, a2⟩, ⟨j', a3, a4⟩, a5, a6⟩ c)⟩
theorem op_count {w : Int32} (hC : CH G M np) (hI : INV M np) (ho : own M np) : OP G M 4 1 0 0 M_af_count M_md_count [some (.ref 20), some (.int w)] [some (.ref 100), some (.int w), none, none] := by
  obtain ⟨nw, n1, n2⟩ := hI.1.2.2.2.2.2
  exact ⟨ctM M np nw w, M, np, hI, ho, fun Q h => c_af_count hC hI.1.1 hI.1.2.1 n2 n1 (h G hC FrC.rf), fun G1 S C hM Q h => c_md_count hM hI.1.1 hI.1.2.1 n2 n1 (h G1 S C hM FrM.rf)⟩
theorem op_told {x w : Int32} (hC : CH G M np) (hI : INV M np) (ho : own M np) : OP G M 4 2 0 0 M_af_told M_md_told [some (.ref 20), some (.int x), some (.int w), none] [some (.ref 100), some (.int x), some (.int w)] := by
  have h24 := hI.1.2.1
  by_cases c : ∃ q, q < np ∧ x = nI q
  · obtain ⟨q, q1, q2⟩ := c
    refine ⟨tldM M q w, M, np, hI, ho, fun Q h => c_af_told hC hI (fun z => absurd q2 (z q q1)) (fun q' a1 a2 => ?_), fun G1 S C hM Q h => c_md_told hM hI.1 (fun z => absurd q2 (z q q1)) (fun q' a1 a2 => ?_)⟩
    · obtain rfl : q' = q := nI_inj (by omega) (by omega) (a2.symm.trans q2)
      exact h G hC FrC.rf
    · obtain rfl : q' = q := nI_inj (by omega) (by omega) (a2.symm.trans q2)
      exact h G1 S C hM FrM.rf
  · exact ⟨_, M, np, hI, ho, fun Q h => c_af_told hC hI (fun _ => h G hC FrC.rf) (fun q' a1 a2 => absurd ⟨q', a1, a2⟩ c), fun G1 S C hM Q h => c_md_told hM hI.1 (fun _ => h G1 S C hM FrM.rf) (fun q' a1 a2 => absurd ⟨q', a1, a2⟩ c)⟩
end OPS
