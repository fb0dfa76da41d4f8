/-! bricks: what the search finds is the best of all sets of plots that can be done -/
section BEST
def lsum (F : Nat → Nat) : List Nat → Nat
  | [] => 0
  | p :: R => F p + lsum F R
def lor (F : Nat → Nat) : List Nat → Nat
  | [] => 0
  | p :: R => F p ||| lor F R
theorem lsum_perm {F : Nat → Nat} {A B : List Nat} (h : A.Perm B) : lsum F A = lsum F B := by
  induction h with
  | nil => rfl
  | cons x _ ih => show F x + _ = F x + _; rw [ih]
  | swap x y l => show F y + (F x + _) = F x + (F y + _); omega
  | trans _ _ h1 h2 => exact h1.trans h2
theorem lor_perm {F : Nat → Nat} {A B : List Nat} (h : A.Perm B) : lor F A = lor F B := by
  induction h with
  | nil => rfl
  | cons x _ ih => show F x ||| _ = F x ||| _; rw [ih]
  | swap x y l => show F y ||| (F x ||| _) = F x ||| (F y ||| _); rw [← Nat.or_assoc, ← Nat.or_assoc, Nat.or_comm (F y)]
  | trans _ _ h1 h2 => exact h1.trans h2
theorem lsum_congr {F F' : Nat → Nat} : ∀ A : List Nat, (∀ p, p ∈ A → F p = F' p) → lsum F A = lsum F' A
  | [], _ => rfl
  | p :: R, h => by
    show F p + lsum F R = F' p + lsum F' R
    rw [h p (List.mem_cons_self ..), lsum_congr R (fun q hq => h q (List.mem_cons_of_mem _ hq))]
theorem lor_congr {F F' : Nat → Nat} : ∀ A : List Nat, (∀ p, p ∈ A → F p = F' p) → lor F A = lor F' A
  | [], _ => rfl
  | p :: R, h => by
    show F p ||| lor F R = F' p ||| lor F' R
    rw [h p (List.mem_cons_self ..), lor_congr R (fun q hq => h q (List.mem_cons_of_mem _ hq))]
theorem lsum_pos {F : Nat → Nat} : ∀ A : List Nat, 0 < lsum F A → ∃ p, p ∈ A ∧ 0 < F p
  | [], h => absurd h (by unfold lsum; omega)
  | p :: R, h => by
    by_cases c : 0 < F p
    · exact ⟨p, List.mem_cons_self .., c⟩
    · have h : 0 < F p + lsum F R := h
      obtain ⟨q, q1, q2⟩ := lsum_pos (F := F) R (by omega)
      exact ⟨q, List.mem_cons_of_mem _ q1, q2⟩
def wz (wt : Nat → Nat) (g : Nat → Bool) (Z : List Nat) : Nat := lsum (fun p => if g p = true then wt p else 0) Z
def bz (g : Nat → Bool) (Z : List Nat) : Nat := lor (fun p => if g p = true then 2 ^ p else 0) Z
def fz (nd : Nat → Nat) (r : Nat → Int) (g : Nat → Bool) : List Nat → Nat → Prop
  | [], _ => True
  | p :: R, u => if g p = true then ((u + nd p : Nat) : Int) ≤ r p ∧ fz nd r g R (u + nd p) else fz nd r g R u
theorem fz_congr {nd : Nat → Nat} {r : Nat → Int} {g g' : Nat → Bool} : ∀ (A : List Nat) (u : Nat), (∀ p, p ∈ A → g p = g' p) → fz nd r g A u → fz nd r g' A u
  | [], _, _, _ => trivial
  | p :: R, u, h, hf => by
    unfold fz at hf ⊢
    rw [← h p (List.mem_cons_self ..)]
    have hR : ∀ q, q ∈ R → g q = g' q := fun q hq => h q (List.mem_cons_of_mem _ hq)
    split
    · rename_i c
      rw [if_pos c] at hf
      exact ⟨hf.1, fz_congr R _ hR hf.2⟩
    · rename_i c
      rw [if_neg c] at hf
      exact fz_congr R _ hR hf
/-- as good, or better -/
def ge2 (a b : Nat × Nat) : Prop := b.1 < a.1 ∨ (b.1 = a.1 ∧ a.2 ≤ b.2)
theorem ge2_rfl (a : Nat × Nat) : ge2 a a := Or.inr ⟨rfl, Nat.le_refl _⟩
theorem ge2_tr {a b c : Nat × Nat} (h : ge2 a b) (k : ge2 b c) : ge2 a c := by
  unfold ge2 at *
  omega
theorem ge2_anti {a b : Nat × Nat} (h : ge2 a b) (k : ge2 b a) : a = b := by
  unfold ge2 at *
  exact Prod.ext (by omega) (by omega)
theorem wz_le (wt : Nat → Nat) (g : Nat → Bool) : ∀ Z : List Nat, wz wt g Z ≤ wsum wt Z
  | [] => Nat.le_refl _
  | p :: R => by
    have := wz_le wt g R
    show (if g p = true then wt p else 0) + wz wt g R ≤ wt p + wsum wt R
    split <;> omega
theorem src_spec {nd wt : Nat → Nat} {r : Nat → Int} : ∀ (Z : List Nat) (u w b : Nat) (best : Nat × Nat), Z.Nodup → ge2 (src nd wt r Z u w b best) best ∧ (∀ g, fz nd r g Z u → ge2 (src nd wt r Z u w b best) (w + wz wt g Z, b ||| bz g Z)) ∧ (src nd wt r Z u w b best = best ∨ ∃ g, fz nd r g Z u ∧ src nd wt r Z u w b best = (w + wz wt g Z, b ||| bz g Z))
  | [], u, w, b, best, _ => by
    have e : ∀ g : Nat → Bool, (w + wz wt g [], b ||| bz g []) = (w, b) := fun g => by
      show (w + 0, b ||| 0) = (w, b)
      rw [Nat.or_zero]
      rfl
    have e2 : src nd wt r [] u w b best = keepB best w b := rfl
    rw [e2]
    unfold keepB
    by_cases c : best.1 < w ∨ (w = best.1 ∧ b < best.2)
    · rw [if_pos c]
      refine ⟨?_, fun g _ => by rw [e]; exact ge2_rfl _, Or.inr ⟨fun _ => false, trivial, (e _).symm⟩⟩
      unfold ge2
      show best.1 < w ∨ (best.1 = w ∧ b ≤ best.2)
      omega
    · rw [if_neg c]
      refine ⟨ge2_rfl _, fun g _ => ?_, Or.inl rfl⟩
      rw [e]
      unfold ge2
      show w < best.1 ∨ (w = best.1 ∧ best.2 ≤ b)
      omega
  | p :: R, u, w, b, best, hnd => by
    obtain ⟨hp, hR⟩ := List.nodup_cons.mp hnd
    unfold src
    by_cases c : w + wsum wt (p :: R) < best.1
    · rw [if_pos c]
      refine ⟨ge2_rfl _, fun g _ => Or.inl ?_, Or.inl rfl⟩
      have := wz_le wt g (p :: R)
      show w + wz wt g (p :: R) < best.1
      omega
    · rw [if_neg c]
      have i1 := src_spec (nd := nd) (wt := wt) (r := r) R (u + nd p) (w + wt p) (b ||| 2 ^ p) best hR
      have i2 := src_spec (nd := nd) (wt := wt) (r := r) R u w b (if ((u + nd p : Nat) : Int) ≤ r p then src nd wt r R (u + nd p) (w + wt p) (b ||| 2 ^ p) best else best) hR
      have et : ∀ g : Nat → Bool, g p = true → (w + wz wt g (p :: R), b ||| bz g (p :: R)) = (w + wt p + wz wt g R, (b ||| 2 ^ p) ||| bz g R) := fun g hg => by
        show (w + ((if g p = true then wt p else 0) + wz wt g R), b ||| ((if g p = true then 2 ^ p else 0) ||| bz g R)) = _
        rw [if_pos hg, if_pos hg, Nat.add_assoc, Nat.or_assoc]
      have ef : ∀ g : Nat → Bool, ¬ g p = true → (w + wz wt g (p :: R), b ||| bz g (p :: R)) = (w + wz wt g R, b ||| bz g R) := fun g hg => by
        show (w + ((if g p = true then wt p else 0) + wz wt g R), b ||| ((if g p = true then 2 ^ p else 0) ||| bz g R)) = _
        rw [if_neg hg, if_neg hg, Nat.zero_add, Nat.zero_or]
      have same : ∀ (g : Nat → Bool) (v : Bool) q, q ∈ R → (if q = p then v else g q) = g q := fun g v q hq => if_neg (fun z => hp (by rw [← z]; exact hq))
      have wsame : ∀ (g : Nat → Bool) (v : Bool), wz wt (fun q => if q = p then v else g q) R = wz wt g R ∧ bz (fun q => if q = p then v else g q) R = bz g R := fun g v => ⟨lsum_congr R (fun q hq => by simp only [same g v q hq]), lor_congr R (fun q hq => by simp only [same g v q hq])⟩
      generalize hb1 : (if ((u + nd p : Nat) : Int) ≤ r p then src nd wt r R (u + nd p) (w + wt p) (b ||| 2 ^ p) best else best) = best1 at *
      have g1 : ge2 best1 best := by
        rw [← hb1]
        split
        · exact i1.1
        · exact ge2_rfl _
      refine ⟨ge2_tr i2.1 g1, fun g hg => ?_, ?_⟩
      · unfold fz at hg
        by_cases d : g p = true
        · rw [if_pos d] at hg
          rw [if_pos hg.1] at hb1
          rw [et g d]
          have := i1.2.1 g hg.2
          rw [hb1] at this
          exact ge2_tr i2.1 this
        · rw [if_neg d] at hg
          rw [ef g d]
          exact i2.2.1 g hg
      · rcases i2.2.2 with e | ⟨g, f1, f2⟩
        · rw [e]
          by_cases d : ((u + nd p : Nat) : Int) ≤ r p
          · rw [if_pos d] at hb1
            rcases i1.2.2 with e1 | ⟨g, f1, f2⟩
            · left; rw [← hb1, e1]
            · right
              refine ⟨fun q => if q = p then true else g q, ?_, ?_⟩
              · unfold fz
                rw [if_pos (by simp)]
                exact ⟨d, fz_congr R _ (fun q hq => (same g true q hq).symm) f1⟩
              · rw [et _ (by simp), (wsame g true).1, (wsame g true).2, ← hb1, f2]
          · rw [if_neg d] at hb1
            left; exact hb1.symm
        · right
          refine ⟨fun q => if q = p then false else g q, ?_, ?_⟩
          · unfold fz
            rw [if_neg (by simp)]
            exact fz_congr R _ (fun q hq => (same g false q hq).symm) f1
          · rw [ef _ (by simp), (wsame g false).1, (wsame g false).2, f2]
/-- the need of those whose room is no more than c -/
def nzr (nd : Nat → Nat) (r : Nat → Int) (g : Nat → Bool) (c : Int) (Z : List Nat) : Nat := lsum (fun p => if g p = true ∧ r p ≤ c then nd p else 0) Z
theorem fz_iff {nd : Nat → Nat} {r : Nat → Int} {g : Nat → Bool} : ∀ (Z : List Nat) (u : Nat), Z.Pairwise (fun x y => r x ≤ r y) → (fz nd r g Z u ↔ ∀ p, p ∈ Z → g p = true → ((u + nzr nd r g (r p) Z : Nat) : Int) ≤ r p)
  | [], u, _ => ⟨fun _ p hp => absurd hp (List.not_mem_nil), fun _ => trivial⟩
  | p :: R, u, hs => by
    obtain ⟨h1, h2⟩ := List.pairwise_cons.mp hs
    have en : ∀ c, nzr nd r g c (p :: R) = (if g p = true ∧ r p ≤ c then nd p else 0) + nzr nd r g c R := fun c => rfl
    unfold fz
    by_cases d : g p = true
    · rw [if_pos d, fz_iff R (u + nd p) h2]
      constructor
      · rintro ⟨a1, a2⟩ q hq hg
        rw [en]
        rcases List.mem_cons.mp hq with e | e
        · subst e
          rw [if_pos ⟨d, Int.le_refl _⟩]
          rcases Nat.eq_zero_or_pos (nzr nd r g (r q) R) with z | z
          · rw [z]; omega
          · obtain ⟨q', b1, b2⟩ := lsum_pos R z
            have b3 : g q' = true ∧ r q' ≤ r q := by
              by_cases y : g q' = true ∧ r q' ≤ r q
              · exact y
              · rw [if_neg y] at b2; omega
            have b4 := a2 q' b1 b3.1
            have b5 : r q' = r q := by have := h1 q' b1; omega
            rw [b5] at b4
            omega
        · rw [if_pos ⟨d, h1 q e⟩]
          have := a2 q e hg
          omega
      · intro a
        refine ⟨?_, fun q hq hg => ?_⟩
        · have := a p (List.mem_cons_self ..) d
          rw [en, if_pos ⟨d, Int.le_refl _⟩] at this
          omega
        · have := a q (List.mem_cons_of_mem _ hq) hg
          rw [en, if_pos ⟨d, h1 q hq⟩] at this
          omega
    · rw [if_neg d, fz_iff R u h2]
      have en2 : ∀ c, nzr nd r g c (p :: R) = nzr nd r g c R := fun c => by rw [en, if_neg (fun z => d z.1), Nat.zero_add]
      constructor
      · intro a q hq hg
        rw [en2]
        rcases List.mem_cons.mp hq with e | e
        · subst e; exact absurd hg d
        · exact a q e hg
      · intro a q hq hg
        have := a q (List.mem_cons_of_mem _ hq) hg
        rw [en2] at this
        exact this
end BEST
