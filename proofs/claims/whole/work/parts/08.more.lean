/-! System.arraycopy of references; new int[n][k] -/
theorem any_of {D : va_G} {N0 : Nat} {r φ : Nat → Nat} {s : State} {G : AHp} {H : Heap} (hK : va_K D classes [] s) (hnx : NX s) (h1 : Rel D N0 r s φ G H) {b ci : Nat} {fs : List Value} {C : String} {T : u_T} {N : Nat} {E : String} (hb : G b = some (oB ci fs)) (hc : classes[ci]? = some (C, T, N)) (hce : Cond.castable C E ∈ nt) : va_Any E s H (φ b) := by
  have h16b := h1.hi hb (fun n f h => by cases h)
  obtain ⟨eb, hPb, hzb, -, -⟩ := h1.at h16b hb
  cases (show eb = _ from hzb)
  obtain ⟨cell, g1, g2, g3⟩ := va_recv hK hPb hc (q0 := 0) rfl
  have hcls := (hK.1 ci _ hc).2
  refine ⟨cell, g1, g2, ?_, fun comp hcomp => vb_asgC (hnx.1 _ hce) comp cell.cls hcomp g3⟩
  obtain ⟨f1, kC, f2, -⟩ := hcls
  rw [g3] at f1
  have e : cell.cls = D.1 ci := Option.some.inj f1
  exact ⟨kC, by rw [e]; exact f2⟩
theorem Rel.gap2 {D : va_G} {N0 : Nat} {r φ : Nat → Nat} {s : State} {G : AHp} {H : Heap} (h : Rel D N0 r s φ G H) {a b : Nat} {c cb : ACell} (ha : 16 ≤ a) (hc : G a = some c) (hb : 16 ≤ b) (hcb : G b = some cb) :
    ∃ (L : List Nat) (E : Nat → va_E) (k j : Nat), (Wl φ E L)[k]? = some (φ a, E a) ∧ (Wl φ E L)[j]? = some (φ b, E b) ∧ va_P D classes (Wl φ E L) H ∧ va_D (fun q => N0 ≤ q) (Wl φ E L) ∧ Cz s φ c (E a) ∧ okc G c ∧ Cz s φ cb (E b) ∧ okc G cb ∧
      ∀ (c' : ACell) (e' : va_E) (H1 : Heap), Cz s φ c' e' → okc G c' → va_P D classes ((Wl φ E L).set k (φ a, e')) H1 → va_D (fun q => N0 ≤ q) ((Wl φ E L).set k (φ a, e')) → (∀ q : Nat, q < N0 → H1[q]? = H[q]?) → Rel D N0 r s φ (up G a c') H1 := by
  obtain ⟨L, E, h1, h2, h3, h4, h5, h6, h7⟩ := h
  have ga : G a ≠ none := by rw [hc]; simp
  obtain ⟨k, hk⟩ := List.getElem?_of_mem ((h2 a).mpr ⟨ha, ga⟩)
  obtain ⟨j, hj⟩ := List.getElem?_of_mem ((h2 b).mpr ⟨hb, by rw [hcb]; simp⟩)
  refine ⟨L, E, k, j, Wl_get hk, Wl_get hj, h4, h5, (h3 a c ha hc).1, (h3 a c ha hc).2, (h3 b cb hb hcb).1, (h3 b cb hb hcb).2, fun c' e' H1 hz hok hP hD hX => ?_⟩
  have hdom : ∀ b, up G a c' b ≠ none ↔ G b ≠ none := up_dom ga
  rw [Wl_set h1 hk] at hP hD
  refine ⟨L, _, h1, fun b => by rw [hdom b]; exact h2 b, fun b x hb hx => ?_, hP, hD, h6, fun b x hb hx => ?_⟩
  · show Cz s _ x (if b = a then e' else E b) ∧ _
    by_cases e : b = a
    · subst e
      rw [up_s] at hx
      cases hx
      rw [if_pos rfl]
      exact ⟨hz, okc_mono (fun x hx => (hdom x).mpr hx) hok⟩
    · rw [up_n e] at hx
      rw [if_neg e]
      exact ⟨(h3 b x hb hx).1, okc_mono (fun x hx => (hdom x).mpr hx) (h3 b x hb hx).2⟩
  · rw [up_n (show b ≠ a by omega)] at hx
    obtain ⟨e0, n, f, e1, e2, e3⟩ := h7 b x hb hx
    exact ⟨e0, n, f, e1, e2.kept (hX _ e3), e3⟩
section MORE
variable {d : Nat} {y : MI} {pc : Nat} {ls : List (Option Value)} {st : List Value} {G : AHp} {kc ks : Nat} {Q : Option Value → AHp → Prop}
def LkC (own : String) (idx : Nat) : Prop := Cond.methodLink own idx arraycopyName ∈ gt ∧ Cond.native arraycopyName ∈ gt ∧ Cond.static arraycopyName ∈ gt ∧ Cond.initialized "java/lang/System" ∈ gt
/-- the first n references of an Object[] into another, from 0 on -/
theorem A.copy {idx a0 a1 n0 n1 n : Nat} {f g : Nat → Option Nat} {i : Int32} (hd : decode (mcode y) pc = .ok (.invokestatic idx, 3)) (hl : LkC (mcls y) idx) (ha0 : G a0 = some (aR (.object "java/lang/Object") n0 f)) (ha1 : G a1 = some (aR (.object "java/lang/Object") n1 g)) (hi : i.toInt = (n : Int)) (hn0 : n ≤ n0) (hn1 : n ≤ n1)
    (hel : ∀ k b, k < n → f k = some b → ∃ (ci : Nat) (fs : List Value) (C : String) (T : u_T) (N : Nat), G b = some (oB ci fs) ∧ classes[ci]? = some (C, T, N) ∧ Cond.castable C "java/lang/Object" ∈ nt) (hw : (st.map fun v => v.category).sum ≤ 8) (hdd : 1 ≤ d)
    (kk : A d y (pc + 3) ls st (up G a1 (aR (.object "java/lang/Object") n1 (fun k => if k < n then f k else g k))) kc ks Q) : A d y pc ls (.int i :: .int 0 :: .ref a1 :: .int 0 :: .ref a0 :: st) G kc ks Q := by
  intro l D N0 r φ0 G0 mc ms p e R s m args below meth c H locs cells slots φ la h0 h1 h2 h3 h4 h5 h6 h7
  have h16 := h1.hi ha1 (fun n f h => by cases h)
  have h160 := h1.hi ha0 (fun n f h => by cases h)
  have hcl : i.toNatClampNeg = n := by show i.toInt.toNat = n; omega
  have hi0 : ¬ i < 0 := by rw [Int32.lt_iff_toInt_lt]; show ¬ i.toInt < 0; omega
  have hany : ∀ k : Nat, k < n → ∀ q : Nat, (f k).map φ = some q → va_Any "java/lang/Object" s H q := fun k hk q hq => by
    cases hfk : f k with
    | none => rw [hfk] at hq; cases hq
    | some b =>
      rw [hfk] at hq
      cases hq
      obtain ⟨ci, fs, C, T, N, e1, e2, e3⟩ := hel k b hk hfk
      exact any_of h0.2.2.2.2.2.2.2.2.1 h0.2.2.2.2.2.2.2.2.2.2.2.2.2 h1 e1 e2 e3
  obtain ⟨L, E, k0, j0, hk0, hj0, hP, hD, ⟨c1, hz, hA1, hA2⟩, hok, ⟨c0, hz0, hB1, hB2⟩, hok0, back⟩ := h1.gap2 h16 ha1 h160 ha0
  rw [hz] at hk0
  rw [hz0] at hj0
  have hmono : ∀ q, G q ≠ none → up G a1 (aR (.object "java/lang/Object") n1 (fun k => if k < n then f k else g k)) q ≠ none := fun q hq => up_ne hq
  have hK2 : va_K D classes [(c0, .object "java/lang/Object"), (c1, .object "java/lang/Object")] s := ⟨h0.2.2.2.2.2.2.2.2.1.1, fun k q hk => by
    match k, hk with
    | 0, hk => cases hk; exact ⟨hB1, hB2⟩
    | 1, hk => cases hk; exact ⟨hA1, hA2⟩
    | k + 2, hk => simp at hk⟩
  have hz00 : (0 : Int32).toNatClampNeg = 0 := by decide
  have hcw := catm φ st
  have hd1 : d ≤ R.frames := h0.2.2.2.2.2.2.2.2.2.2.1
  have hd2 : 40 * d ≤ R.locals := h0.2.2.2.2.2.2.2.2.2.2.2.1
  have hnf : nativeFrameWords "java/lang/System" "arraycopy" 5 ≤ 20 := by decide
  refine va_copyM (E0 := "java/lang/Object") (E1 := "java/lang/Object") (f := fun k => (f k).map φ) (g := fun k => (g k).map φ) (sp := 0) (dp := 0) (n := i) h0.1 h0.2.1 (h0.2.2.2.1.trans h5.1.symm) h0.2.2.2.2.1 (h0.2.2.2.2.2.1 _ hl.1) (h0.2.2.2.2.2.1 _ hl.2.1) (h0.2.2.2.2.2.1 _ hl.2.2.1) (h0.2.2.2.2.2.1 _ hl.2.2.2) hK2 hP hD h3 j0 k0 0 1 hj0 hk0 rfl rfl (by decide) (by decide) hi0 (by rw [hz00, hcl]; omega) (by rw [hz00, hcl]; omega) (fun k hk q hq => by
    rw [hz00, Nat.zero_add] at hq
    exact hany k (by omega) q hq) (by omega) (by rw [hcw]; omega) hd (fun H1 locs1 hP1 hD1 hS1 => ?_)
  rw [hz00, hcl] at hP1 hD1
  have hmap : va_cpy (fun k => (f k).map φ) (fun k => (g k).map φ) 0 0 n = (fun k => (if k < n then f k else g k).map φ) := by
    funext k
    unfold va_cpy
    by_cases e : k < n
    · rw [if_pos ⟨Nat.zero_le _, by omega⟩, if_pos e]; simp
    · rw [if_neg (by omega), if_neg e]
  rw [hmap] at hP1 hD1
  refine kk l D N0 r φ0 G0 mc ms p e R s m args below meth c H1 locs1 cells slots φ la h0 (back (aR (.object "java/lang/Object") n1 (fun k => if k < n then f k else g k)) _ H1 ⟨c1, rfl, hA1, hA2⟩ (fun k x hx => ?_) hP1 hD1 (low_kept h0.2.2.2.2.2.2.2.2.2.2.2.2.1 h3 hS1)) h2.put hS1 h4 h5 (oks_mono hmono h6) (okl_mono hmono (okl_tail (okl_tail (okl_tail (okl_tail (okl_tail h7))))))
  have hx : (if k < n then f k else g k) = some x := hx
  by_cases e : k < n
  · rw [if_pos e] at hx; exact hok0 k x hx
  · rw [if_neg e] at hx; exact hok k x hx
end MORE
/-- a cell that lies in the machine's heap unnamed gets a name -/
theorem Rel.add {D : va_G} {N0 : Nat} {r φ : Nat → Nat} {s : State} {G : AHp} {H : Heap} (h : Rel D N0 r s φ G H) {a q : Nat} {c' : ACell} {e' : va_E} (ha : 16 ≤ a) (ga : G a = none) (hq : ∀ b, 16 ≤ b → G b ≠ none → φ b ≠ q) (hN : N0 ≤ q) (hz : Cz s (va_up φ a q) c' e') (hk : okc (up G a c') c') (hat : va_at D classes (q, e') H) : Rel D N0 r s (va_up φ a q) (up G a c') H ∧ ∀ b, okn G b → va_up φ a q b = φ b := by
  obtain ⟨L, E, hL, hP, hD, hφ, back⟩ := h.gapX ha ga
  have one : ∀ (j : Nat) (x : Nat × va_E), [(q, e')][j]? = some x → j = 0 ∧ x = (q, e') := fun j x hx => by
    have h0 : j < 1 := (List.getElem?_eq_some_iff.mp hx).1
    have hj : j = 0 := by omega
    subst hj
    cases hx
    exact ⟨rfl, rfl⟩
  refine ⟨back q c' e' H hz hk (hP.app (fun k x hx => ?_)) (hD.app ⟨fun i j x y hi hj _ => ?_, fun k x hx => ?_⟩ (fun i j x y hx hy hxy => ?_)) (fun _ _ => rfl), hφ q⟩
  · rw [(one k x hx).2]; exact hat
  · rw [(one i x hi).1, (one j y hj).1]
  · rw [(one k x hx).2]; exact hN
  · obtain ⟨b, hb1, hb2, hb3⟩ := hL i x hx
    rw [(one j y hy).2] at hxy
    exact hq b hb1 hb2 (hb3.symm.trans hxy)
theorem Rel.heap {D : va_G} {N0 : Nat} {r φ : Nat → Nat} {s : State} {G : AHp} {H H1 : Heap} (h : Rel D N0 r s φ G H) (hN : N0 ≤ H.size) (ho : ∀ x : Nat, x < H.size → H1[x]? = H[x]?) : Rel D N0 r s φ G H1 := by
  obtain ⟨L, E, h1, h2, h3, h4, h5, h6, h7⟩ := h
  refine ⟨L, E, h1, h2, h3, fun k x hx => (h4 k x hx).kept (ho _ (h4 k x hx).lt), h5, h6, fun a c ha hc => ?_⟩
  obtain ⟨e0, n, f, e1, e2, e3⟩ := h7 a c ha hc
  exact ⟨e0, n, f, e1, e2.kept (ho _ (by omega)), e3⟩
/-- n cells of one kind, at the names from B on -/
def upN (G : AHp) (B n : Nat) (c : ACell) : AHp := fun x => if B ≤ x ∧ x < B + n then some c else G x
def phN (φ : Nat → Nat) (B n q : Nat) : Nat → Nat := fun x => if B ≤ x ∧ x < B + n then q + (x - B) else φ x
theorem upN_s (G : AHp) (B n : Nat) (c : ACell) : upN G B (n + 1) c = up (upN G B n c) (B + n) c := by
  funext x
  show (if B ≤ x ∧ x < B + (n + 1) then some c else G x) = (if x = B + n then some c else (if B ≤ x ∧ x < B + n then some c else G x))
  by_cases e : x = B + n
  · rw [if_pos (by omega), if_pos e]
  · rw [if_neg e]
    by_cases h : B ≤ x ∧ x < B + n
    · rw [if_pos h, if_pos (by omega)]
    · rw [if_neg h, if_neg (by omega)]
theorem phN_s (φ : Nat → Nat) (B n q : Nat) : phN φ B (n + 1) q = va_up (phN φ B n q) (B + n) (q + n) := by
  funext x
  show (if B ≤ x ∧ x < B + (n + 1) then q + (x - B) else φ x) = (if x = B + n then q + n else (if B ≤ x ∧ x < B + n then q + (x - B) else φ x))
  by_cases e : x = B + n
  · rw [if_pos (by omega), if_pos e]; omega
  · rw [if_neg e]
    by_cases h : B ≤ x ∧ x < B + n
    · rw [if_pos h, if_pos (by omega)]
    · rw [if_neg h, if_neg (by omega)]
theorem Rel.addN {D : va_G} {N0 : Nat} {r φ : Nat → Nat} {s : State} {G : AHp} {H : Heap} (h : Rel D N0 r s φ G H) {B q k : Nat} {cy : ClassId} (hB : 16 ≤ B) (hA1 : ArrOfT s cy .int) (hA2 : va_RA s cy .int) (hN : N0 ≤ q) : ∀ n : Nat, (∀ x, B ≤ x → x < B + n → G x = none) → (∀ b, 16 ≤ b → G b ≠ none → φ b < q) → (∀ j, j < n → H[q + j]? = some (vp_cell cy (k, .inl (fun _ => 0)))) → Rel D N0 r s (phN φ B n q) (upN G B n (aI k (fun _ => 0))) H ∧ (∀ b, okn G b → phN φ B n q b = φ b)
  | 0, _, _, _ => by
    have e1 : upN G B 0 (aI k (fun _ => 0)) = G := by funext x; unfold upN; rw [if_neg (by omega)]
    have e2 : phN φ B 0 q = φ := by funext x; unfold phN; rw [if_neg (by omega)]
    rw [e1, e2]
    exact ⟨h, fun _ _ => rfl⟩
  | n + 1, hf, hlt, hc => by
    obtain ⟨ih, iφ⟩ := Rel.addN h hB hA1 hA2 hN n (fun x h1 h2 => hf x h1 (by omega)) hlt (fun j hj => hc j (by omega))
    rw [upN_s, phN_s]
    have hno : upN G B n (aI k (fun _ => 0)) (B + n) = none := by unfold upN; rw [if_neg (by omega)]; exact hf _ (by omega) (by omega)
    obtain ⟨r1, r2⟩ := ih.add (a := B + n) (q := q + n) (c' := aI k (fun _ => 0)) (e' := .inl (cy, k, .inl (fun _ => 0))) (by omega) hno (fun b hb1 hb2 => by
      unfold upN at hb2
      unfold phN
      by_cases hx : B ≤ b ∧ b < B + n
      · rw [if_pos hx]; omega
      · rw [if_neg hx] at hb2 ⊢
        have := hlt b hb1 hb2
        omega) (by omega) ⟨cy, rfl, hA1, hA2⟩ trivial (hc n (by omega))
    refine ⟨r1, fun b hb => ?_⟩
    rw [r2 b (hb.elim Or.inl (fun z => Or.inr (by unfold upN; by_cases hx : B ≤ b ∧ b < B + n <;> simp [hx, z]))), iφ b hb]
theorem mul_outer (c : ClassId) (N h0 : Nat) : ∀ i : Nat, Jvm.Free.Multi.outerC c N h0 i = arrV c N (fun j => va_rf (if j < i then some (h0 + 1 + j) else none))
  | 0 => by
    show ({ cls := c, slots := Array.replicate N .null, vm := .none } : Cell) = _
    rw [arrV_new]
    exact congrArg (arrV c N) (funext fun j => by simp [va_rf])
  | i + 1 => by
    show (Jvm.Free.Multi.outerC c N h0 i).setSlot i (.ref (h0 + 1 + i)) = _
    rw [mul_outer c N h0 i, arrV_store]
    refine congrArg (arrV c N) (funext fun j => ?_)
    by_cases e : j = i
    · subst e; simp [updV, va_rf]
    · by_cases h : j < i
      · simp [updV, e, h, Nat.lt_succ_of_lt h]
      · simp [updV, e, h, show ¬ j < i + 1 by omega]
section MNA
variable {d : Nat} {y : MI} {pc : Nat} {ls : List (Option Value)} {st : List Value} {G : AHp} {kc ks : Nat} {Q : Option Value → AHp → Prop}
theorem A.mna {idx a B n k : Nat} {i j : Int32} (hd : decode (mcode y) pc = .ok (.multianewarray idx 2, 4)) (hl : Cond.classLink (mcls y) idx ("[" ++ (FieldType.array .int).toString) ∈ gt) (hac : Cond.arrayClass .int ∈ gt) (hi : i.toInt = (n : Int)) (hj : j.toInt = (k : Int)) (hn : n ≤ 1000) (hk : k ≤ 1000) (ha : 16 ≤ a) (ga : G a = none) (hB : 16 ≤ B) (gB : ∀ x, B ≤ x → x < B + n → G x = none) (haB : a < B ∨ B + n ≤ a) {kc' ks' : Nat} (hkc : kc' + (1 + n) ≤ kc) (hks : ks' + (n + n * k) ≤ ks)
    (kk : A d y (pc + 4) ls (.ref a :: st) (up (upN G B n (aI k (fun _ => 0))) a (aR (.array .int) n (fun x => if x < n then some (B + x) else none))) kc' ks' Q) : A d y pc ls (.int j :: .int i :: st) G kc ks Q := by
  intro l D N0 r φ0 G0 mc ms p e R s m args below meth c H locs cells slots φ la h0 h1 h2 h3 h4 h5 h6 h7 T hT Xs
  have hcl : i.toNatClampNeg = n := by show i.toInt.toNat = n; omega
  have hcl2 : j.toNatClampNeg = k := by show j.toInt.toNat = k; omega
  have hi0 : ¬ i < 0 := by rw [Int32.lt_iff_toInt_lt]; show ¬ i.toInt < 0; omega
  have hj0 : ¬ j < 0 := by rw [Int32.lt_iff_toInt_lt]; show ¬ j.toInt < 0; omega
  have hNs : N0 ≤ s.heap.size := h0.2.2.2.2.2.2.2.2.2.2.2.2.1
  have hN : N0 ≤ H.size := Nat.le_trans hNs h3.1
  obtain ⟨vm₁, cA, cy, -, fA, fC, hO, hI, X', step⟩ := Xs.multianewarray2F h0.1 h0.2.2.2.2.1 (h0.2.2.2.2.2.1 _ hl) (show (Cond.arrayOver (.array .int)).before args s = true from h0.2.2.2.2.2.2.2.2.2.2.2.2.2.2.2.2.1) (h0.2.2.2.2.2.1 _ hac) (g := F0 m pc la ((Value.int j :: .int i :: st).map (tv φ))) rfl (by rw [h0.2.1]; exact hd) rfl hi0 hj0 (by rw [hcl]; omega) (by rw [hcl2]; show k * 4 ≤ _; omega) (by rw [hcl2]; omega) rfl rfl (by rw [hcl]; omega) (by rw [hcl, hcl2]; omega)
  rw [hcl, hcl2] at X' step
  generalize hF : Jvm.Free.Multi.fill (T.setVm vm₁) cA cy n k (defaultValue .int) n = F at X' step
  have hTh : (T.setVm vm₁).heap = H := hT
  obtain ⟨f1, f2, -, -⟩ := Jvm.Free.Multi.fill_facts (T.setVm vm₁) cA cy n k (defaultValue .int) n
  rw [hF, hTh] at f1 f2
  have hold : ∀ x : Nat, x < H.size → F.heap[x]? = H[x]? := fun x hx => by
    have := Jvm.Free.Multi.fill_old (T.setVm vm₁) cA cy n k (defaultValue .int) (a := x) (by rw [hTh]; exact hx) n
    rw [hF, hTh] at this
    exact this
  have hrow : ∀ x : Nat, x < n → F.heap[H.size + 1 + x]? = some (vp_cell cy (k, .inl (fun _ => 0))) := fun x hx => by
    have := Jvm.Free.Multi.fill_inner (T.setVm vm₁) cA cy n k (defaultValue .int) n x hx
    rw [hF, hTh] at this
    rw [this]
    show some ({ cls := cy, slots := Array.replicate k (defaultValue .int), vm := .none } : Cell) = _
    rw [arrV_new, vp_cell_i]
    rfl
  have hB1 : ArrOfT s cy .int := fun N9 z9 => by
    obtain ⟨q9, k9, hk9, cm9, hkk9⟩ := (hI 0 (.int 0)).1
    exact ⟨(fun q hq => by cases hq), k9, hk9, cm9, hkk9⟩
  have hA1 : ArrOfT s cA (.array .int) := fun N9 z9 => by
    obtain ⟨-, k9, hk9, cm9, hkk9⟩ := (hO 0 0 0).1
    exact ⟨(fun q hq => by cases hq), k9, hk9, cm9, hkk9⟩
  have hlt : ∀ b, 16 ≤ b → G b ≠ none → φ b < H.size := fun b hb1 hb2 => by
    obtain ⟨c0, hc0⟩ := Option.ne_none_iff_exists'.mp hb2
    obtain ⟨e', hP, -, -, -⟩ := h1.at hb1 hc0
    exact (hP 0 _ rfl).lt
  obtain ⟨R1, p1⟩ := Rel.addN (h1.heap hN hold) (B := B) (q := H.size + 1) (k := k) (cy := cy) hB hB1 fC (by omega) n gB (fun b hb1 hb2 => Nat.lt_succ_of_lt (hlt b hb1 hb2)) hrow
  have hφB : ∀ x, x < n → va_up (phN φ B n (H.size + 1)) a H.size (B + x) = H.size + 1 + x := fun x hx => by
    show (if B + x = a then H.size else phN φ B n (H.size + 1) (B + x)) = _
    rw [if_neg (by omega)]
    unfold phN
    rw [if_pos (by omega)]
    omega
  have hfun : (fun x => (if x < n then some (B + x) else none).map (va_up (phN φ B n (H.size + 1)) a H.size)) = (fun x => if x < n then some (H.size + 1 + x) else none) := by
    funext x
    by_cases hx : x < n
    · rw [if_pos hx, if_pos hx]; show some _ = some _; rw [hφB x hx]
    · rw [if_neg hx, if_neg hx]; rfl
  have hout : F.heap[H.size]? = some (vp_cell cA (n, .inr (.inr (.inr (.inr (fun x => if x < n then some (H.size + 1 + x) else none)))))) := by
    rw [f2, vp_cell_q, mul_outer]
  have hgB : ∀ x, x < n → upN G B n (aI k (fun _ => 0)) (B + x) ≠ none := fun x hx => by unfold upN; rw [if_pos (by omega)]; simp
  obtain ⟨R2, p2⟩ := R1.add (a := a) (q := H.size) (c' := aR (.array .int) n (fun x => if x < n then some (B + x) else none)) (e' := .inl (cA, n, .inr (.inr (.inr (.inr (fun x => if x < n then some (H.size + 1 + x) else none)))))) ha (by unfold upN; rw [if_neg (by omega)]; exact ga) (fun b hb1 hb2 => by
      unfold upN at hb2
      unfold phN
      by_cases hx : B ≤ b ∧ b < B + n
      · rw [if_pos hx]; omega
      · rw [if_neg hx] at hb2 ⊢
        have := hlt b hb1 hb2
        omega) hN ⟨cA, by show Sum.inl (cA, n, _) = Sum.inl (cA, n, _); rw [hfun], hA1, fA⟩ (fun x b hb => by
      have hb : (if x < n then some (B + x) else none) = some b := hb
      by_cases hx : x < n
      · rw [if_pos hx] at hb; cases hb; exact Or.inr (up_ne (hgB x hx))
      · rw [if_neg hx] at hb; cases hb) hout
  have hmono : ∀ b, G b ≠ none → up (upN G B n (aI k (fun _ => 0))) a (aR (.array .int) n (fun x => if x < n then some (B + x) else none)) b ≠ none := fun b hb => up_ne (by unfold upN; by_cases hx : B ≤ b ∧ b < B + n <;> simp [hx, hb])
  have hmid : ∀ b, okn G b → okn (upN G B n (aI k (fun _ => 0))) b := fun b hb => hb.elim Or.inl (fun z => Or.inr (by unfold upN; by_cases hx : B ≤ b ∧ b < B + n <;> simp [hx, z]))
  have hφ : ∀ b, okn G b → va_up (phN φ B n (H.size + 1)) a H.size b = φ b := fun b hb => (p2 b (hmid b hb)).trans (p1 b hb)
  have hst : Value.ref H.size :: st.map (tv φ) = (Value.ref a :: st).map (tv (va_up (phN φ B n (H.size + 1)) a H.size)) := by
    rw [List.map_cons, tvl_eq hφ (okl_tail (okl_tail h7))]
    show _ = Value.ref (va_up _ a H.size a) :: _
    rw [show va_up (phN φ B n (H.size + 1)) a H.size a = H.size from if_pos rfl]
  obtain ⟨t, a1, b1⟩ := kk l D N0 r φ0 G0 mc ms p e R s m args below meth c F.heap locs (cells + 1 + n) (slots + n + n * k) (va_up (phN φ B n (H.size + 1)) a H.size) la h0 R2 ⟨fun b hb => ⟨hmono b (h2.1 b hb).1, (hφ b (Or.inr (h2.1 b hb).1)).trans (h2.1 b hb).2⟩, fun b hb => (hφ b (Or.inl hb)).trans (h2.2 b hb)⟩
    ⟨by rw [f1]; have := h3.1; omega, fun x x1 x2 => (hold x (Nat.lt_of_lt_of_le x1 h3.1)).trans (h3.2.1 x x1 x2), h3.2.2⟩ ⟨by omega, by omega, h4.2.2⟩ (LH_eq hφ h6 h5) (oks_mono hmono h6) (okl_cons (okv_r (Or.inr (by rw [up_s]; simp))) (okl_mono hmono (okl_tail (okl_tail h7)))) F rfl X'
  refine ⟨t, step t ?_, b1⟩
  have e9 : T.heap.size = H.size := by rw [hT]
  rw [e9]
  rw [← hst] at a1
  exact a1
end MNA
