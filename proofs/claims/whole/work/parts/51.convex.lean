/-! borders: rows that bend one way, first best feet -/
section CONVEX
def cvx (f : Nat → Nat) (lo hi : Nat) : Prop := ∀ e, lo ≤ e → e + 2 ≤ hi → 2 * f (e + 1) ≤ f e + f (e + 2)
theorem cvx_in {f : Nat → Nat} {lo hi : Nat} (h : cvx f lo hi) : ∀ k a, lo ≤ a → a + 1 + k ≤ hi → f (a + 1) + f (a + k) ≤ f a + f (a + 1 + k)
  | 0, a, _, _ => by show f (a + 1) + f a ≤ f a + f (a + 1); omega
  | k + 1, a, h1, h2 => by
    have i1 := cvx_in h k a h1 (by omega)
    have i2 := h (a + k) (by omega) (by omega)
    rw [show a + 1 + (k + 1) = a + k + 2 by omega, show a + (k + 1) = a + k + 1 by omega]
    rw [show a + 1 + k = a + k + 1 by omega] at i1
    omega
def isF (f : Nat → Nat) (lo hi a : Nat) : Prop := lo ≤ a ∧ a ≤ hi ∧ (∀ e, lo ≤ e → e < a → f a < f e) ∧ ∀ e, lo ≤ e → e ≤ hi → f a ≤ f e
theorem isF_eq {f : Nat → Nat} {lo hi a b : Nat} (h : isF f lo hi a) (k : isF f lo hi b) : a = b := by
  rcases Nat.lt_trichotomy a b with y | y | y
  · have := k.2.2.1 a h.1 y
    have := h.2.2.2 b k.1 k.2.1
    omega
  · exact y
  · have := h.2.2.1 b k.1 y
    have := k.2.2.2 a h.1 h.2.1
    omega
theorem isF_sub {f : Nat → Nat} {lo lo' hi a : Nat} (h : isF f lo hi a) (h1 : lo ≤ lo') (h2 : lo' ≤ a) : isF f lo' hi a := ⟨h2, h.2.1, fun e x y => h.2.2.1 e (by omega) y, fun e x y => h.2.2.2 e (by omega) y⟩
/-- the walk that stops where the next foot is no better -/
def fbN (f : Nat → Nat) : Nat → Nat → Nat
  | 0, e => e
  | k + 1, e => if f (e + 1) < f e then fbN f k (e + 1) else e
theorem fb_F {f : Nat → Nat} {lo hi : Nat} (h : cvx f lo hi) : ∀ k e, lo ≤ e → e + k = hi → isF f e hi (fbN f k e)
  | 0, e, h1, h2 => ⟨Nat.le_refl _, by show e ≤ hi; omega, fun x a b => by have : x < e := b; omega, fun x a b => (show f e ≤ f x by rw [show x = e by omega]; exact Nat.le_refl _)⟩
  | k + 1, e, h1, h2 => by
    unfold fbN
    by_cases c : f (e + 1) < f e
    · rw [if_pos c]
      obtain ⟨i1, i2, i3, i4⟩ := fb_F h k (e + 1) (by omega) (by omega)
      have i5 := i4 (e + 1) (Nat.le_refl _) (by omega)
      refine ⟨by omega, i2, fun x a b => ?_, fun x a b => ?_⟩
      · by_cases y : x = e
        · subst y; omega
        · exact i3 x (by omega) b
      · by_cases y : x = e
        · subst y; omega
        · exact i4 x (by omega) b
    · rw [if_neg c]
      have up : ∀ m, e + m ≤ hi → f e ≤ f (e + m) := by
        intro m
        induction m with
        | zero => intro _; exact Nat.le_refl _
        | succ m ih =>
          intro hm
          have i1 := ih (by omega)
          have i2 := cvx_in h m e h1 (by omega)
          rw [show e + 1 + m = e + (m + 1) by omega] at i2
          omega
      refine ⟨Nat.le_refl _, by omega, fun x a b => by omega, fun x a b => ?_⟩
      have := up (x - e) (by omega)
      rw [show e + (x - e) = x by omega] at this
      exact this
/-- a quarrel with a foot by the deed, and what lies behind -/
def psi (B : Nat → Nat) (w e : Nat) : Nat := apN e w + B e
theorem psi_cvx {B : Nat → Nat} {lo hi : Nat} (w : Nat) (h : cvx B lo hi) : cvx (psi B w) lo hi := by
  intro e h1 h2
  have := h e h1 h2
  unfold psi apN
  split <;> split <;> split <;> omega
theorem psi_mono {B : Nat → Nat} {w y hi a b : Nat} (h : isF (psi B (y + w)) (y + 1) hi a) (k : isF (psi B (y + 1 + w)) (y + 2) hi b) : a ≤ b := by
  rcases Nat.lt_or_ge b a with c | c
  · have h1 := h.2.2.1 b (by have := k.1; omega) c
    have h2 := k.2.2.2 a (by have := k.1; omega) h.2.1
    unfold psi apN at h1 h2
    split at h1 <;> split at h1 <;> split at h2 <;> split at h2 <;> omega
  · exact c
/-- the least of all, by where one begins, bends the same way -/
theorem conv_cvx {B C : Nat → Nat} {d lo hi T : Nat} (hB : cvx B lo hi) (hlo : lo ≤ 1) (ha : ∀ x, x ≤ T → ∃ a, isF (psi B (x + d)) (x + 1) hi a ∧ C x = psi B (x + d) a) : cvx C 0 T := by
  intro e _ h2
  obtain ⟨e1, f1, g1⟩ := ha e (by omega)
  obtain ⟨e2, f2, g2⟩ := ha (e + 2) (by omega)
  obtain ⟨e3, f3, g3⟩ := ha (e + 1) (by omega)
  have l1 := f1.1
  have l2 := f2.1
  have u1 := f1.2.1
  have u2 := f2.2.1
  rw [g1, g2, g3]
  by_cases c : e1 < e2
  · have m1 := f3.2.2.2 (e1 + 1) (by omega) (by omega)
    have m2 := f3.2.2.2 (e2 - 1) (by omega) (by omega)
    have m3 := cvx_in hB (e2 - e1 - 1) e1 (by omega) (by omega)
    rw [show e1 + (e2 - e1 - 1) = e2 - 1 by omega, show e1 + 1 + (e2 - e1 - 1) = e2 by omega] at m3
    have q1 : apN (e1 + 1) (e + 1 + d) = apN e1 (e + d) := by unfold apN; split <;> split <;> omega
    have q2 : apN (e2 - 1) (e + 1 + d) = apN e2 (e + 2 + d) := by unfold apN; split <;> split <;> omega
    unfold psi at m1 m2 ⊢
    rw [q1] at m1
    rw [q2] at m2
    omega
  · have m1 := f3.2.2.2 e1 (by omega) (by omega)
    have m2 := f3.2.2.2 e2 (by omega) (by omega)
    have q1 : apN e1 (e + 1 + d) + apN e2 (e + 1 + d) ≤ apN e1 (e + d) + apN e2 (e + 2 + d) := by unfold apN; split <;> split <;> split <;> split <;> omega
    unfold psi at m1 m2 ⊢
    omega
variable {n t : Nat} {dd : Nat → Nat} {sk : Nat → Option Nat}
/-- the least quarrel of the i-th border at a foot and of all behind it -/
def RR (n t : Nat) (dd : Nat → Nat) (sk : Nat → Option Nat) (i e : Nat) : Nat := if i + 1 = n then 0 else skN (sk i) e + DN n t dd sk (n - (i + 1)) e
theorem skN_cvx (o : Option Nat) (lo hi : Nat) : cvx (skN o) lo hi := by
  intro e _ _
  cases o with
  | none => exact Nat.zero_le _
  | some z =>
    show 2 * apN (e + 1) z ≤ apN e z + apN (e + 2) z
    unfold apN
    split <;> split <;> split <;> omega
theorem cs_psi (hn : n ≤ 8) (ht : t ≤ 300) (hdd : ∀ j, j < n → dd j ≤ 60) (hsk : ∀ j z, j < n → sk j = some z → z ≤ 300) {i x e : Nat} (hi : i < n) (hx : x < e) (he : e + (n - (i + 1)) ≤ t) (h0 : i + 1 = n → e = t) : csN (DN n t dd sk (n - (i + 1))) (dd i) (sk i) t x e = psi (RR n t dd sk i) (x + dd i) e := by
  have h1 := DN_small hn ht hdd hsk (n - (i + 1)) e (by omega) (fun z => h0 (by omega)) he
  have h2 : apN (e - x) (dd i) = apN e (x + dd i) := by unfold apN; split <;> split <;> omega
  unfold csN psi RR
  rw [if_neg (by omega), h2]
  by_cases c : i + 1 = n
  · rw [if_pos c, h0 c, if_neg (by omega), show n - (i + 1) = 0 by omega]
    show (if t = t then 0 else 1000000) + _ + 0 = _
    rw [if_pos rfl]
    omega
  · rw [if_neg c, if_pos (by omega)]
    omega
theorem DN_F (hn : n ≤ 8) (ht : t ≤ 300) (hdd : ∀ j, j < n → dd j ≤ 60) (hsk : ∀ j z, j < n → sk j = some z → z ≤ 300) {i x lo a : Nat} (hi : i < n) (hx : x + (n - i) ≤ t) (hlo : lo = if i + 1 = n then t else x + 1) (h : isF (psi (RR n t dd sk i) (x + dd i)) lo (t - (n - (i + 1))) a) : DN n t dd sk (n - i) x = psi (RR n t dd sk i) (x + dd i) a := by
  have hlo1 : x + 1 ≤ lo := by rw [hlo]; split <;> omega
  have e1 : n - i = n - (i + 1) + 1 := by omega
  have e2 : n - (n - (i + 1) + 1) = i := by omega
  have ha := h.1
  have ha2 := h.2.1
  have ca := cs_psi hn ht hdd hsk (x := x) (e := a) hi (by omega) (by omega) (fun z => by rw [if_pos z] at hlo; omega)
  rw [e1, DN_s, e2]
  have m1 := mnN_min (csN (DN n t dd sk (n - (i + 1))) (dd i) (sk i) t x) x (t - x) a (by omega) (by omega)
  rw [ca] at m1
  have hs := DN_small hn ht hdd hsk (n - i) x (by omega) (fun z => by omega) hx
  rw [e1, DN_s, e2] at hs
  obtain ⟨y, y1, y2, y3⟩ := mnN_at (csN (DN n t dd sk (n - (i + 1))) (dd i) (sk i) t x) x (t - x) (by omega)
  have y4 : DN n t dd sk (n - (i + 1)) y < 1000000 := csN_lt (by rw [y3]; omega)
  have y5 : y + (n - (i + 1)) ≤ t := by
    rcases Nat.lt_or_ge t (y + (n - (i + 1))) with z | z
    · rw [DN_far _ _ z] at y4; omega
    · exact z
  have y6 : i + 1 = n → y = t := fun z => by
    rw [show n - (i + 1) = 0 by omega] at y4
    have y4 : (if y = t then 0 else 1000000) < 1000000 := y4
    split at y4
    · assumption
    · omega
  have cy := cs_psi hn ht hdd hsk (x := x) (e := y) hi (by omega) y5 y6
  have m2 := h.2.2.2 y (by rw [hlo]; split
                           · have := y6 (by assumption); omega
                           · omega) (by omega)
  rw [← cy, y3] at m2
  omega
theorem DN_cvx (hn : n ≤ 8) (ht : t ≤ 300) (hnt : n ≤ t) (hdd : ∀ j, j < n → dd j ≤ 60) (hsk : ∀ j z, j < n → sk j = some z → z ≤ 300) : ∀ j, j < n → cvx (DN n t dd sk (j + 1)) 0 (t - (j + 1))
  | 0, h1 => by
    have key : ∀ x, x + 1 ≤ t → DN n t dd sk 1 x = apN t (x + dd (n - 1)) := fun x hx => by
      have := DN_F hn ht hdd hsk (i := n - 1) (x := x) (lo := t) (a := t) (by omega) (by omega) (by rw [if_pos (by omega)]) ⟨Nat.le_refl _, by omega, fun e a b => by omega, fun e a b => by rw [show e = t by omega]; exact Nat.le_refl _⟩
      rw [show n - (n - 1) = 1 by omega] at this
      rw [this]
      unfold psi RR
      rw [if_pos (by omega)]
      rfl
    intro e _ h2
    rw [key e (by omega), key (e + 1) (by omega), key (e + 2) (by omega)]
    unfold apN
    split <;> split <;> split <;> omega
  | j + 1, h1 => by
    have ih := DN_cvx hn ht hnt hdd hsk j (by omega)
    have hB : cvx (RR n t dd sk (n - (j + 2))) 0 (t - (j + 1)) := by
      intro e a b
      have := ih e a b
      have := skN_cvx (sk (n - (j + 2))) 0 (t - (j + 1)) e a b
      unfold RR
      rw [if_neg (by omega), if_neg (by omega), if_neg (by omega), show n - (n - (j + 2) + 1) = j + 1 by omega]
      omega
    refine conv_cvx (B := RR n t dd sk (n - (j + 2))) (d := dd (n - (j + 2))) (hi := t - (j + 1)) hB (by omega) (fun x hx => ?_)
    have hF := fb_F (psi_cvx (x + dd (n - (j + 2))) hB) (t - (j + 1) - (x + 1)) (x + 1) (by omega) (by omega)
    refine ⟨_, hF, ?_⟩
    have := DN_F hn ht hdd hsk (i := n - (j + 2)) (x := x) (lo := x + 1) (a := fbN (psi (RR n t dd sk (n - (j + 2))) (x + dd (n - (j + 2)))) (t - (j + 1) - (x + 1)) (x + 1)) (by omega) (by omega) (by rw [if_neg (by omega)]) (by rw [show n - (n - (j + 2) + 1) = j + 1 by omega]; exact hF)
    rw [show n - (n - (j + 2)) = j + 1 + 1 by omega] at this
    exact this
theorem RR_cvx (hn : n ≤ 8) (ht : t ≤ 300) (hnt : n ≤ t) (hdd : ∀ j, j < n → dd j ≤ 60) (hsk : ∀ j z, j < n → sk j = some z → z ≤ 300) {i : Nat} (hi : i + 1 < n) : cvx (RR n t dd sk i) 0 (t - (n - (i + 1))) := by
  have ih := DN_cvx hn ht hnt hdd hsk (n - (i + 2)) (by omega)
  rw [show n - (i + 2) + 1 = n - (i + 1) by omega] at ih
  intro e a b
  have := ih e a b
  have := skN_cvx (sk i) 0 (t - (n - (i + 1))) e a b
  unfold RR
  rw [if_neg (by omega), if_neg (by omega), if_neg (by omega)]
  omega
/-- the first best end of the i-th plot, begun at x -/
def aF (n t : Nat) (dd : Nat → Nat) (sk : Nat → Option Nat) (i x : Nat) : Nat := if i + 1 = n then t else fbN (psi (RR n t dd sk i) (x + dd i)) (t - (n - (i + 1)) - (x + 1)) (x + 1)
theorem aF_F (hn : n ≤ 8) (ht : t ≤ 300) (hnt : n ≤ t) (hdd : ∀ j, j < n → dd j ≤ 60) (hsk : ∀ j z, j < n → sk j = some z → z ≤ 300) {i x : Nat} (hi : i < n) (hx : x + (n - i) ≤ t) : isF (psi (RR n t dd sk i) (x + dd i)) (if i + 1 = n then t else x + 1) (t - (n - (i + 1))) (aF n t dd sk i x) := by
  unfold aF
  by_cases c : i + 1 = n
  · rw [if_pos c, if_pos c, show t - (n - (i + 1)) = t by omega]
    exact ⟨Nat.le_refl _, Nat.le_refl _, fun e a b => by omega, fun e a b => by rw [show e = t by omega]; exact Nat.le_refl _⟩
  · rw [if_neg c, if_neg c]
    exact fb_F (psi_cvx _ (RR_cvx hn ht hnt hdd hsk (by omega))) _ _ (by omega) (by omega)
theorem aF_DN (hn : n ≤ 8) (ht : t ≤ 300) (hnt : n ≤ t) (hdd : ∀ j, j < n → dd j ≤ 60) (hsk : ∀ j z, j < n → sk j = some z → z ≤ 300) {i x : Nat} (hi : i < n) (hx : x + (n - i) ≤ t) : DN n t dd sk (n - i) x = psi (RR n t dd sk i) (x + dd i) (aF n t dd sk i x) :=
  DN_F hn ht hdd hsk hi hx rfl (aF_F hn ht hnt hdd hsk hi hx)
theorem aF_mono (hn : n ≤ 8) (ht : t ≤ 300) (hnt : n ≤ t) (hdd : ∀ j, j < n → dd j ≤ 60) (hsk : ∀ j z, j < n → sk j = some z → z ≤ 300) {i x : Nat} (hi : i < n) (hx : x + 1 + (n - i) ≤ t) : aF n t dd sk i x ≤ aF n t dd sk i (x + 1) := by
  have h1 := aF_F hn ht hnt hdd hsk (x := x) hi (by omega)
  have h2 := aF_F hn ht hnt hdd hsk (x := x + 1) hi (by omega)
  by_cases c : i + 1 = n
  · unfold aF; rw [if_pos c, if_pos c]; exact Nat.le_refl _
  · rw [if_neg c] at h1 h2
    exact psi_mono h1 h2
theorem feN_first {f : Nat → Nat} {v y0 : Nat} (h : f y0 = v) : ∀ k y, y ≤ y0 → y0 ≤ y + k → (∀ e, y ≤ e → e < y0 → f e ≠ v) → feN f v k y = y0
  | 0, y, h1, h2, _ => by show y = y0; omega
  | k + 1, y, h1, h2, h3 => by
    rw [feN_s]
    by_cases c : y = y0
    · subst c; rw [if_pos h]
    · rw [if_neg (h3 y (Nat.le_refl _) (by omega))]
      exact feN_first h k (y + 1) (by omega) (by omega) (fun e a b => h3 e (by omega) b)
theorem bdN_aF (hn : n ≤ 8) (ht : t ≤ 300) (hnt : n ≤ t) (h1 : 1 ≤ n) (hdd : ∀ j, j < n → dd j ≤ 60) (hsk : ∀ j z, j < n → sk j = some z → z ≤ 300) {i : Nat} (hi : i < n) : bdN n t dd sk (i + 1) = aF n t dd sk i (bdN n t dd sk i) := by
  obtain ⟨b1, b2⟩ := bdN_ok hn ht hnt h1 hdd hsk i (by omega)
  rw [bdN_s]
  generalize bdN n t dd sk i = x at *
  have hF := aF_F hn ht hnt hdd hsk (x := x) hi b2
  have hD := aF_DN hn ht hnt hdd hsk (x := x) hi b2
  have hlo : x + 1 ≤ (if i + 1 = n then t else x + 1) := by split <;> omega
  have ha := hF.1
  have ha2 := hF.2.1
  have hz : i + 1 = n → aF n t dd sk i x = t := fun z => by unfold aF; rw [if_pos z]
  refine feN_first ?_ _ _ (by omega) (by omega) (fun e e1 e2 => ?_)
  · rw [cs_psi hn ht hdd hsk hi (by omega) (by omega) hz, hD]
  · intro c
    have hs : csN (DN n t dd sk (n - (i + 1))) (dd i) (sk i) t x e < 1000000 := by rw [c]; exact b1
    have y4 := csN_lt hs
    by_cases z : i + 1 = n
    · rw [show n - (i + 1) = 0 by omega] at y4
      have y4 : (if e = t then 0 else 1000000) < 1000000 := y4
      rw [if_neg (by have := hz z; omega)] at y4
      omega
    · rw [cs_psi hn ht hdd hsk hi (by omega) (by omega) (fun w => absurd w z), hD] at c
      rw [if_neg z] at hF
      have := hF.2.2.1 e (by omega) e2
      omega
end CONVEX
