/-! System.arraycopy of references -/
theorem any_of {D : va_G} {N0 : Nat} {r φ : Nat → Nat} {s : State} {G : AHp} {H : Heap} (hK : va_K D classes [] s) (hnx : NX s) (h1 : Rel D N0 r s φ G H) {b ci : Nat} {fs : List Value} {C : String} {T : u_T} {N : Nat} {E : String} (hb : G b = some (oB ci fs)) (hc : classes[ci]? = some (C, T, N)) (hce : Cond.castable C E ∈ nt) : va_Any E s H (φ b) := by
  have h16b := h1.hi hb (fun n f h => by cases h)
  obtain ⟨eb, hPb, hzb, -, -⟩ := h1.at h16b hb
  cases (show eb = _ from hzb)
  obtain ⟨cell, g1, g2, g3⟩ := va_recv hK hPb hc (q0 := 0) rfl
  have hcls := (hK.1 ci _ hc).2
  refine ⟨cell, g1, g2, ?_, fun comp hcomp => vb_asgC (hnx.1 _ hce) comp cell.cls hcomp g3⟩
  obtain ⟨f1, kC, f2, -⟩ := hcls
  rw [g3] at f1
  have e : cell.cls = D.1 ci := Option.some.inj f1
  exact ⟨kC, by rw [e]; exact f2⟩
theorem Rel.gap2 {D : va_G} {N0 : Nat} {r φ : Nat → Nat} {s : State} {G : AHp} {H : Heap} (h : Rel D N0 r s φ G H) {a b : Nat} {c cb : ACell} (ha : 16 ≤ a) (hc : G a = some c) (hb : 16 ≤ b) (hcb : G b = some cb) :
    ∃ (L : List Nat) (E : Nat → va_E) (k j : Nat), (Wl φ E L)[k]? = some (φ a, E a) ∧ (Wl φ E L)[j]? = some (φ b, E b) ∧ va_P D classes (Wl φ E L) H ∧ va_D (fun q => N0 ≤ q) (Wl φ E L) ∧ Cz s φ c (E a) ∧ okc G c ∧ Cz s φ cb (E b) ∧ okc G cb ∧
      ∀ (c' : ACell) (e' : va_E) (H1 : Heap), Cz s φ c' e' → okc G c' → va_P D classes ((Wl φ E L).set k (φ a, e')) H1 → va_D (fun q => N0 ≤ q) ((Wl φ E L).set k (φ a, e')) → (∀ q : Nat, q < N0 → H1[q]? = H[q]?) → Rel D N0 r s φ (up G a c') H1 := by
  obtain ⟨L, E, h1, h2, h3, h4, h5, h6, h7⟩ := h
  have ga : G a ≠ none := by rw [hc]; simp
  obtain ⟨k, hk⟩ := List.getElem?_of_mem ((h2 a).mpr ⟨ha, ga⟩)
  obtain ⟨j, hj⟩ := List.getElem?_of_mem ((h2 b).mpr ⟨hb, by rw [hcb]; simp⟩)
  refine ⟨L, E, k, j, Wl_get hk, Wl_get hj, h4, h5, (h3 a c ha hc).1, (h3 a c ha hc).2, (h3 b cb hb hcb).1, (h3 b cb hb hcb).2, fun c' e' H1 hz hok hP hD hX => ?_⟩
  have hdom : ∀ b, up G a c' b ≠ none ↔ G b ≠ none := up_dom ga
  rw [Wl_set h1 hk] at hP hD
  refine ⟨L, _, h1, fun b => by rw [hdom b]; exact h2 b, fun b x hb hx => ?_, hP, hD, h6, fun b x hb hx => ?_⟩
  · show Cz s _ x (if b = a then e' else E b) ∧ _
    by_cases e : b = a
    · subst e
      rw [up_s] at hx
      cases hx
      rw [if_pos rfl]
      exact ⟨hz, okc_mono (fun x hx => (hdom x).mpr hx) hok⟩
    · rw [up_n e] at hx
      rw [if_neg e]
      exact ⟨(h3 b x hb hx).1, okc_mono (fun x hx => (hdom x).mpr hx) (h3 b x hb hx).2⟩
  · rw [up_n (show b ≠ a by omega)] at hx
    obtain ⟨e0, n, f, e1, e2, e3⟩ := h7 b x hb hx
    exact ⟨e0, n, f, e1, e2.kept (hX _ e3), e3⟩
section MORE
variable {d : Nat} {y : MI} {pc : Nat} {ls : List (Option Value)} {st : List Value} {G : AHp} {kc ks : Nat} {Q : Option Value → AHp → Prop}
def LkC (own : String) (idx : Nat) : Prop := Cond.methodLink own idx arraycopyName ∈ gt ∧ Cond.native arraycopyName ∈ gt ∧ Cond.static arraycopyName ∈ gt ∧ Cond.initialized "java/lang/System" ∈ gt
/-- the first n references of an Object[] into another, from 0 on -/
theorem A.copy {idx a0 a1 n0 n1 n : Nat} {f g : Nat → Option Nat} {i : Int32} (hd : decode (mcode y) pc = .ok (.invokestatic idx, 3)) (hl : LkC (mcls y) idx) (ha0 : G a0 = some (aR (.object "java/lang/Object") n0 f)) (ha1 : G a1 = some (aR (.object "java/lang/Object") n1 g)) (hi : i.toInt = (n : Int)) (hn0 : n ≤ n0) (hn1 : n ≤ n1)
    (hel : ∀ k b, k < n → f k = some b → ∃ (ci : Nat) (fs : List Value) (C : String) (T : u_T) (N : Nat), G b = some (oB ci fs) ∧ classes[ci]? = some (C, T, N) ∧ Cond.castable C "java/lang/Object" ∈ nt) (hw : (st.map fun v => v.category).sum ≤ 8) (hdd : 1 ≤ d)
    (kk : A d y (pc + 3) ls st (up G a1 (aR (.object "java/lang/Object") n1 (fun k => if k < n then f k else g k))) kc ks Q) : A d y pc ls (.int i :: .int 0 :: .ref a1 :: .int 0 :: .ref a0 :: st) G kc ks Q := by
  intro l D N0 r φ0 G0 mc ms p e R s m args below meth c H locs cells slots φ la h0 h1 h2 h3 h4 h5 h6 h7
  have h16 := h1.hi ha1 (fun n f h => by cases h)
  have h160 := h1.hi ha0 (fun n f h => by cases h)
  have hcl : i.toNatClampNeg = n := by show i.toInt.toNat = n; omega
  have hi0 : ¬ i < 0 := by rw [Int32.lt_iff_toInt_lt]; show ¬ i.toInt < 0; omega
  have hany : ∀ k : Nat, k < n → ∀ q : Nat, (f k).map φ = some q → va_Any "java/lang/Object" s H q := fun k hk q hq => by
    cases hfk : f k with
    | none => rw [hfk] at hq; cases hq
    | some b =>
      rw [hfk] at hq
      cases hq
      obtain ⟨ci, fs, C, T, N, e1, e2, e3⟩ := hel k b hk hfk
      exact any_of h0.2.2.2.2.2.2.2.2.1 h0.2.2.2.2.2.2.2.2.2.2.2.2.2 h1 e1 e2 e3
  obtain ⟨L, E, k0, j0, hk0, hj0, hP, hD, ⟨c1, hz, hA1, hA2⟩, hok, ⟨c0, hz0, hB1, hB2⟩, hok0, back⟩ := h1.gap2 h16 ha1 h160 ha0
  rw [hz] at hk0
  rw [hz0] at hj0
  have hmono : ∀ q, G q ≠ none → up G a1 (aR (.object "java/lang/Object") n1 (fun k => if k < n then f k else g k)) q ≠ none := fun q hq => up_ne hq
  have hK2 : va_K D classes [(c0, .object "java/lang/Object"), (c1, .object "java/lang/Object")] s := ⟨h0.2.2.2.2.2.2.2.2.1.1, fun k q hk => by
    match k, hk with
    | 0, hk => cases hk; exact ⟨hB1, hB2⟩
    | 1, hk => cases hk; exact ⟨hA1, hA2⟩
    | k + 2, hk => simp at hk⟩
  have hz00 : (0 : Int32).toNatClampNeg = 0 := by decide
  have hcw := catm φ st
  have hd1 : d ≤ R.frames := h0.2.2.2.2.2.2.2.2.2.2.1
  have hd2 : 40 * d ≤ R.locals := h0.2.2.2.2.2.2.2.2.2.2.2.1
  have hnf : nativeFrameWords "java/lang/System" "arraycopy" 5 ≤ 20 := by decide
  refine va_copyM (E0 := "java/lang/Object") (E1 := "java/lang/Object") (f := fun k => (f k).map φ) (g := fun k => (g k).map φ) (sp := 0) (dp := 0) (n := i) h0.1 h0.2.1 (h0.2.2.2.1.trans h5.1.symm) h0.2.2.2.2.1 (h0.2.2.2.2.2.1 _ hl.1) (h0.2.2.2.2.2.1 _ hl.2.1) (h0.2.2.2.2.2.1 _ hl.2.2.1) (h0.2.2.2.2.2.1 _ hl.2.2.2) hK2 hP hD h3 j0 k0 0 1 hj0 hk0 rfl rfl (by decide) (by decide) hi0 (by rw [hz00, hcl]; omega) (by rw [hz00, hcl]; omega) (fun k hk q hq => by
    rw [hz00, Nat.zero_add] at hq
    exact hany k (by omega) q hq) (by omega) (by rw [hcw]; omega) hd (fun H1 locs1 hP1 hD1 hS1 => ?_)
  rw [hz00, hcl] at hP1 hD1
  have hmap : va_cpy (fun k => (f k).map φ) (fun k => (g k).map φ) 0 0 n = (fun k => (if k < n then f k else g k).map φ) := by
    funext k
    unfold va_cpy
    by_cases e : k < n
    · rw [if_pos ⟨Nat.zero_le _, by omega⟩, if_pos e]; simp
    · rw [if_neg (by omega), if_neg e]
  rw [hmap] at hP1 hD1
  refine kk l D N0 r φ0 G0 mc ms p e R s m args below meth c H1 locs1 cells slots φ la h0 (back (aR (.object "java/lang/Object") n1 (fun k => if k < n then f k else g k)) _ H1 ⟨c1, rfl, hA1, hA2⟩ (fun k x hx => ?_) hP1 hD1 (low_kept h0.2.2.2.2.2.2.2.2.2.2.2.2.1 h3 hS1)) h2.put hS1 h4 h5 (oks_mono hmono h6) (okl_mono hmono (okl_tail (okl_tail (okl_tail (okl_tail (okl_tail h7))))))
  have hx : (if k < n then f k else g k) = some x := hx
  by_cases e : k < n
  · rw [if_pos e] at hx; exact hok0 k x hx
  · rw [if_neg e] at hx; exact hok k x hx
end MORE
