/-! MAKING, CASTS, CONSTANTS, Math -/
section MAKE
variable {d : Nat} {y : MI} {pc : Nat} {ls : List (Option Value)} {st : List Value} {G : AHp} {kc ks : Nat} {Q : Option Value → AHp → Prop}
/-- a class that can be made: its fields at first -/
def NW (own : String) (idx ci N : Nat) (fs : List Value) : Prop :=
  ∃ (C : String) (T : u_T) (ty : Nat → FieldType), CK ci C T N ty ∧ Cond.classLink own idx C ∈ gt ∧ Cond.instantiable C N ∈ gt ∧ Cond.initialized C ∈ gt ∧ (∀ j, j < N → defaultValue (ty j) = vp_V fs j) ∧ ∀ v ∈ fs, ∀ a, v ≠ .ref a
theorem tvl_nr {φ : Nat → Nat} {fs : List Value} (h : ∀ v ∈ fs, ∀ a, v ≠ .ref a) : fs.map (tv φ) = fs := by
  conv => rhs; rw [← List.map_id fs]
  apply List.map_congr_left
  intro v hv
  have := h v hv
  cases v <;> first | rfl | exact absurd rfl (this _)
theorem A.new {idx ci N a : Nat} {fs : List Value} (hf : NW (mcls y) idx ci N fs) (hd : decode (mcode y) pc = .ok (.new idx, 3)) (ha : 16 ≤ a) (ga : G a = none) {kc' ks' : Nat} (hkc : kc' + 1 ≤ kc) (hks : ks' + N ≤ ks) (kk : A d y (pc + 3) ls (.ref a :: st) (up G a (oB ci fs)) kc' ks' Q) : A d y pc ls st G kc ks Q := by
  intro l D N0 r φ0 G0 mc ms p e R s m args below meth c H locs cells slots φ la h0 h1 h2 h3 h4 h5 h6 h7
  obtain ⟨L, E, hP, hD, hφ, back⟩ := h1.gapN ha ga
  obtain ⟨C, T, ty, ⟨hc, hin, hty, hnm⟩, hcl, hins, hini, hfs, hnr⟩ := hf
  have hmono : ∀ b, G b ≠ none → up G a (oB ci fs) b ≠ none := fun b hb => up_ne hb
  refine va_new (ci := ci) (fs := fs) h0.1 h0.2.1 h0.2.2.2.2.2.1 hin ty hty h0.2.2.2.2.1 (h0.2.2.2.2.2.1 _ hcl) (h0.2.2.2.2.2.1 _ hins) (h0.2.2.2.2.2.1 _ hini) h0.2.2.2.2.2.2.2.2.1 hP hD h3 (fun q hq => Nat.le_trans h0.2.2.2.2.2.2.2.2.2.2.2.2.1 hq) hc hfs (by omega) (by omega) hd (fun q H1 hP1 hD1 hS1 => ?_)
  have hφq := hφ q
  have hst : Value.ref q :: st.map (tv φ) = (Value.ref a :: st).map (tv (va_up φ a q)) := by
    rw [List.map_cons, tvl_eq hφq h7]
    show _ = Value.ref (va_up φ a q a) :: _
    rw [show va_up φ a q a = q from if_pos rfl]
  rw [hst]
  refine kk l D N0 r φ0 G0 mc ms p e R s m args below meth c H1 locs (cells + 1) (slots + N) (va_up φ a q) la h0 (back q (oB ci fs) _ H1 (by show _ = _; rw [tvl_nr hnr]) (fun v hv b e => absurd e (hnr v hv b)) hP1 hD1 (low_kept h0.2.2.2.2.2.2.2.2.2.2.2.2.1 h3 hS1)) (h2.new hφq) hS1 ⟨by omega, by omega, h4.2.2⟩ (LH_eq hφq h6 h5) (oks_mono hmono h6) (okl_cons (okv_r (Or.inr (by rw [up_s]; simp))) (okl_mono hmono h7))
theorem A.newI {a n : Nat} {i : Int32} (hd : decode (mcode y) pc = .ok (.newarray .int, 2)) (hi : i.toInt = (n : Int)) (hn : n ≤ 100000) (ha : 16 ≤ a) (ga : G a = none) {kc' ks' : Nat} (hkc : kc' + 1 ≤ kc) (hks : ks' + n ≤ ks) (hac : Cond.arrayClass .int ∈ gt) (kk : A d y (pc + 2) ls (.ref a :: st) (up G a (aI n (fun _ => 0))) kc' ks' Q) : A d y pc ls (.int i :: st) G kc ks Q := by
  intro l D N0 r φ0 G0 mc ms p e R s m args below meth c H locs cells slots φ la h0 h1 h2 h3 h4 h5 h6 h7
  obtain ⟨L, E, hP, hD, hφ, back⟩ := h1.gapN ha ga
  have hmono : ∀ b, G b ≠ none → up G a (aI n (fun _ => 0)) b ≠ none := fun b hb => up_ne hb
  have hcl : i.toNatClampNeg = n := by show i.toInt.toNat = n; omega
  have hi0 : ¬ i < 0 := by rw [Int32.lt_iff_toInt_lt]; show ¬ i.toInt < 0; omega
  refine va_newa (tys := []) (atype := .int) (ty := .int) (n := i) (N' := n) (a0 := (n, .inl (fun _ => 0))) h0.1 h0.2.1 (h0.2.2.2.2.2.1 _ hac) rfl h0.2.2.2.2.2.2.2.2.1 hP hD h3 (fun q hq => Nat.le_trans h0.2.2.2.2.2.2.2.2.2.2.2.2.1 hq) (fun cA => rfl) hi0 hcl (by show n * 4 ≤ _; omega) (by omega) (by omega) hd (fun q cA H1 hK1 hP1 hD1 hS1 => ?_)
  have hφq := hφ q
  have hst : Value.ref q :: st.map (tv φ) = (Value.ref a :: st).map (tv (va_up φ a q)) := by
    rw [List.map_cons, tvl_eq hφq (okl_tail h7)]
    show _ = Value.ref (va_up φ a q a) :: _
    rw [show va_up φ a q a = q from if_pos rfl]
  have hcz := hK1.2 0 _ rfl
  show W p l e R s m args below meth c H1 locs _ _ _ (F0 m (pc + 2) la (Value.ref q :: st.map (tv φ)))
  rw [hst]
  exact kk l D N0 r φ0 G0 mc ms p e R s m args below meth c H1 locs (cells + 1) (slots + n) (va_up φ a q) la h0 (back q (aI n (fun _ => 0)) _ H1 ⟨cA, rfl, hcz.1, hcz.2⟩ trivial hP1 hD1 (low_kept h0.2.2.2.2.2.2.2.2.2.2.2.2.1 h3 hS1)) (h2.new hφq) hS1 ⟨by omega, by omega, h4.2.2⟩ (LH_eq hφq h6 h5) (oks_mono hmono h6) (okl_cons (okv_r (Or.inr (by rw [up_s]; simp))) (okl_mono hmono (okl_tail h7)))
theorem A.newL {a n : Nat} {i : Int32} (hd : decode (mcode y) pc = .ok (.newarray .long, 2)) (hi : i.toInt = (n : Int)) (hn : n ≤ 100000) (ha : 16 ≤ a) (ga : G a = none) {kc' ks' : Nat} (hkc : kc' + 1 ≤ kc) (hks : ks' + n ≤ ks) (hac : Cond.arrayClass .long ∈ gt) (kk : A d y (pc + 2) ls (.ref a :: st) (up G a (aL n (fun _ => 0))) kc' ks' Q) : A d y pc ls (.int i :: st) G kc ks Q := by
  intro l D N0 r φ0 G0 mc ms p e R s m args below meth c H locs cells slots φ la h0 h1 h2 h3 h4 h5 h6 h7
  obtain ⟨L, E, hP, hD, hφ, back⟩ := h1.gapN ha ga
  have hmono : ∀ b, G b ≠ none → up G a (aL n (fun _ => 0)) b ≠ none := fun b hb => up_ne hb
  have hcl : i.toNatClampNeg = n := by show i.toInt.toNat = n; omega
  have hi0 : ¬ i < 0 := by rw [Int32.lt_iff_toInt_lt]; show ¬ i.toInt < 0; omega
  refine va_newa (tys := []) (atype := .long) (ty := .long) (n := i) (N' := n) (a0 := (n, .inr (.inl (fun _ => 0)))) h0.1 h0.2.1 (h0.2.2.2.2.2.1 _ hac) rfl h0.2.2.2.2.2.2.2.2.1 hP hD h3 (fun q hq => Nat.le_trans h0.2.2.2.2.2.2.2.2.2.2.2.2.1 hq) (fun cA => rfl) hi0 hcl (by show n * 8 ≤ _; omega) (by omega) (by omega) hd (fun q cA H1 hK1 hP1 hD1 hS1 => ?_)
  have hφq := hφ q
  have hst : Value.ref q :: st.map (tv φ) = (Value.ref a :: st).map (tv (va_up φ a q)) := by
    rw [List.map_cons, tvl_eq hφq (okl_tail h7)]
    show _ = Value.ref (va_up φ a q a) :: _
    rw [show va_up φ a q a = q from if_pos rfl]
  have hcz := hK1.2 0 _ rfl
  show W p l e R s m args below meth c H1 locs _ _ _ (F0 m (pc + 2) la (Value.ref q :: st.map (tv φ)))
  rw [hst]
  exact kk l D N0 r φ0 G0 mc ms p e R s m args below meth c H1 locs (cells + 1) (slots + n) (va_up φ a q) la h0 (back q (aL n (fun _ => 0)) _ H1 ⟨cA, rfl, hcz.1, hcz.2⟩ trivial hP1 hD1 (low_kept h0.2.2.2.2.2.2.2.2.2.2.2.2.1 h3 hS1)) (h2.new hφq) hS1 ⟨by omega, by omega, h4.2.2⟩ (LH_eq hφq h6 h5) (oks_mono hmono h6) (okl_cons (okv_r (Or.inr (by rw [up_s]; simp))) (okl_mono hmono (okl_tail h7)))
def AOv (C : String) : Prop := ∀ s, NX s → va_AO C s
theorem aov_street : AOv "AfterFire$Street" := fun _ h => h.2.1
theorem aov_object : AOv "java/lang/Object" := fun _ h => h.2.2.1
theorem A.anew {C : String} {idx a n : Nat} {i : Int32} (hC : AOv C) (hl : Cond.classLink (mcls y) idx C ∈ gt) (hd : decode (mcode y) pc = .ok (.anewarray idx, 3)) (hi : i.toInt = (n : Int)) (hn : n ≤ 100000) (ha : 16 ≤ a) (ga : G a = none) {kc' ks' : Nat} (hkc : kc' + 1 ≤ kc) (hks : ks' + n ≤ ks) (kk : A d y (pc + 3) ls (.ref a :: st) (up G a (aR (.object C) n (fun _ => none))) kc' ks' Q) : A d y pc ls (.int i :: st) G kc ks Q := by
  intro l D N0 r φ0 G0 mc ms p e R s m args below meth c H locs cells slots φ la h0 h1 h2 h3 h4 h5 h6 h7
  obtain ⟨L, E, hP, hD, hφ, back⟩ := h1.gapN ha ga
  have hmono : ∀ b, G b ≠ none → up G a (aR (.object C) n (fun _ => none)) b ≠ none := fun b hb => up_ne hb
  have hcl : i.toNatClampNeg = n := by show i.toInt.toNat = n; omega
  have hi0 : ¬ i < 0 := by rw [Int32.lt_iff_toInt_lt]; show ¬ i.toInt < 0; omega
  refine va_newq (tys := []) (n := i) (N' := n) h0.1 h0.2.1 h0.2.2.2.2.1 (h0.2.2.2.2.2.1 _ hl) (hC s h0.2.2.2.2.2.2.2.2.2.2.2.2.2) h0.2.2.2.2.2.2.2.2.1 hP hD h3 (fun q hq => Nat.le_trans h0.2.2.2.2.2.2.2.2.2.2.2.2.1 hq) hi0 hcl (by omega) (by omega) (by omega) hd (fun q cA H1 hK1 hP1 hD1 hS1 => ?_)
  have hφq := hφ q
  have hst : Value.ref q :: st.map (tv φ) = (Value.ref a :: st).map (tv (va_up φ a q)) := by
    rw [List.map_cons, tvl_eq hφq (okl_tail h7)]
    show _ = Value.ref (va_up φ a q a) :: _
    rw [show va_up φ a q a = q from if_pos rfl]
  have hcz := hK1.2 0 _ rfl
  show W p l e R s m args below meth c H1 locs _ _ _ (F0 m (pc + 3) la (Value.ref q :: st.map (tv φ)))
  rw [hst]
  exact kk l D N0 r φ0 G0 mc ms p e R s m args below meth c H1 locs (cells + 1) (slots + n) (va_up φ a q) la h0 (back q (aR (.object C) n (fun _ => none)) _ H1 ⟨cA, rfl, hcz.1, hcz.2⟩ (fun j b e => by cases e) hP1 hD1 (low_kept h0.2.2.2.2.2.2.2.2.2.2.2.2.1 h3 hS1)) (h2.new hφq) hS1 ⟨by omega, by omega, h4.2.2⟩ (LH_eq hφq h6 h5) (oks_mono hmono h6) (okl_cons (okv_r (Or.inr (by rw [up_s]; simp))) (okl_mono hmono (okl_tail h7)))
/-- an object into an array of its class, or of Object -/
theorem A.aastore {a b n j ci : Nat} {C E : String} {T : u_T} {N : Nat} {f : Nat → Option Nat} {fs : List Value} {i : Int32} (hd : decode (mcode y) pc = .ok (.aastore, 1)) (ha : G a = some (aR (.object E) n f)) (hb : G b = some (oB ci fs)) (hc : classes[ci]? = some (C, T, N)) (hce : C = E ∨ Cond.castable C E ∈ nt) (hi : i.toInt = (j : Int)) (hj : j < n) (kk : A d y (pc + 1) ls st (up G a (aR (.object E) n (va_up f j (some b)))) kc ks Q) : A d y pc ls (.ref b :: .int i :: .ref a :: st) G kc ks Q := by
  intro l D N0 r φ0 G0 mc ms p e R s m args below meth c H locs cells slots φ la h0 h1 h2 h3 h4 h5 h6 h7
  have h16 := h1.hi ha (fun n f h => by cases h)
  have h16b := h1.hi hb (fun n f h => by cases h)
  have hcl : i.toNatClampNeg = j := by show i.toInt.toNat = j; omega
  have hin : vp_in i n := vp_in_iff.mpr ⟨by omega, by omega⟩
  have h1' := h1
  obtain ⟨L, E', k0, hk0, hP, hD, ⟨cA, hz, hA1, hA2⟩, hok, back⟩ := h1.gap h16 ha
  rw [hz] at hk0
  have hmono : ∀ q, G q ≠ none → up G a (aR (.object E) n (va_up f j (some b))) q ≠ none := fun q hq => up_ne hq
  have hmap : (fun k => ((va_up f j (some b)) k).map φ) = va_up (fun k => (f k).map φ) j (some (φ b)) := by
    funext k
    unfold va_up
    by_cases e : k = j <;> simp [e]
  have fin : ∀ (H1 : Heap) (locs1 : List Loc), va_P D classes ((Wl φ E' L).set k0 (φ a, .inl (cA, n, .inr (.inr (.inr (.inr (va_up (fun k => (f k).map φ) i.toNatClampNeg (some (φ b))))))))) H1 → va_D (fun q => N0 ≤ q) ((Wl φ E' L).set k0 (φ a, .inl (cA, n, .inr (.inr (.inr (.inr (va_up (fun k => (f k).map φ) i.toNatClampNeg (some (φ b))))))))) → va_S (fun q => N0 ≤ q) s.heap H1 locs1 → W p l e R s m args below meth c H1 locs1 cells slots (MQ below (AQ D N0 r φ0 G0 Q) args s mc ms (fun q => N0 ≤ q)) (F0 m (pc + 1) la (st.map (tv φ))) := fun H1 locs1 hP1 hD1 hS1 => by
    rw [hcl] at hP1 hD1
    refine kk l D N0 r φ0 G0 mc ms p e R s m args below meth c H1 locs1 cells slots φ la h0 (back (aR (.object E) n (va_up f j (some b))) _ H1 ⟨cA, ?_, hA1, hA2⟩ (fun k x hx => ?_) hP1 hD1 (low_kept h0.2.2.2.2.2.2.2.2.2.2.2.2.1 h3 hS1)) h2.put hS1 h4 h5 (oks_mono hmono h6) (okl_mono hmono (okl_tail (okl_tail (okl_tail h7))))
    · show Sum.inl (cA, n, _) = Sum.inl (cA, n, _)
      rw [hmap]
    · unfold va_up at hx
      by_cases e : k = j
      · rw [if_pos e] at hx; cases hx; exact Or.inr (by rw [hb]; simp)
      · rw [if_neg e] at hx; exact hok k x hx
  have hK := one_ty h0.2.2.2.2.2.2.2.2.1 hA1 hA2
  have hany : va_Any E s H (φ b) := by
    obtain ⟨eb, hPb, hzb, -, -⟩ := h1'.at h16b hb
    cases (show eb = _ from hzb)
    obtain ⟨cell, g1, g2, g3⟩ := va_recv h0.2.2.2.2.2.2.2.2.1 hPb hc (q0 := 0) rfl
    have hcls := (h0.2.2.2.2.2.2.2.2.1.1 ci _ hc).2
    refine ⟨cell, g1, g2, ?_, fun comp hcomp => ?_⟩
    · obtain ⟨f1, kC, f2, -⟩ := hcls
      rw [g3] at f1
      have e : cell.cls = D.1 ci := Option.some.inj f1
      exact ⟨kC, by rw [e]; exact f2⟩
    · rcases hce with rfl | hce
      · rw [g3] at hcomp
        have e : cell.cls = comp := Option.some.inj hcomp
        rw [e]
        first | exact Vm.assignable_self _ _ | exact assignable_self _ _
      · exact vb_asgC (h0.2.2.2.2.2.2.2.2.2.2.2.2.2.1 _ hce) comp cell.cls hcomp g3
  exact va_astqM (f := fun k => (f k).map φ) h0.1 h0.2.1 hK hP hD h3 k0 0 hk0 rfl hany hin hd fin
/-- a cast to the object's own class -/
theorem A.cast {idx ci a N : Nat} {C : String} {T : u_T} {fs : List Value} (hd : decode (mcode y) pc = .ok (.checkcast idx, 3)) (hl : Cond.classLink (mcls y) idx C ∈ gt) (hc : classes[ci]? = some (C, T, N)) (ha : G a = some (oB ci fs)) (kk : A d y (pc + 3) ls (.ref a :: st) G kc ks Q) : A d y pc ls (.ref a :: st) G kc ks Q := by
  intro l D N0 r φ0 G0 mc ms p e R s m args below meth c H locs cells slots φ la h0 h1 h2 h3 h4 h5 h6 h7
  have h16 := h1.hi ha (fun n f h => by cases h)
  obtain ⟨e', hP, hz, hok, -⟩ := h1.at h16 ha
  have kk := kk l D N0 r φ0 G0 mc ms p e R s m args below meth c H locs cells slots φ la h0 h1 h2 h3 h4 h5 h6 h7
  obtain ⟨hx, hb, hr, hml, hown, hts, hlocks, hnm, hK, hSt, hd1, hd2, hN, hnx⟩ := h0
  cases (show e' = _ from hz)
  exact va_castS hx hb hown (hts _ hl) (hK.1 ci _ hc).2 (va_recv hK hP hc (q0 := 0) rfl) hd kk
theorem A.objInit {idx a : Nat} (hd : decode (mcode y) pc = .ok (.invokespecial idx, 3)) (hl : Cond.methodLink (mcls y) idx objectInit ∈ gt ∧ Cond.instanceMethod objectInit ∈ gt ∧ Cond.code objectInit ⟨#[0xb1]⟩ 1 none ∈ gt) (hw : (st.map fun v => v.category).sum ≤ 8) (hdd : 1 ≤ d) (kk : A d y (pc + 3) ls st G kc ks Q) : A d y pc ls (.ref a :: st) G kc ks Q := by
  intro l D N0 r φ0 G0 mc ms p e R s m args below meth c H locs cells slots φ la h0 h1 h2 h3 h4 h5 h6 h7
  have kk := kk l D N0 r φ0 G0 mc ms p e R s m args below meth c H locs cells slots φ la h0 h1 h2 h3 h4 h5 h6 (okl_tail h7)
  obtain ⟨hx, hb, hr, hml, hown, hts, hlocks, hnm, hK, hSt, hd1, hd2, hN, hnx⟩ := h0
  have hw' : (((st.map (tv φ)).map fun v => v.category).sum) ≤ 8 := by rw [catm]; exact hw
  have hw2 := lv_room (m := m) (pc := pc) (ls := la) (rest := (Value.ref a :: st).map (tv φ)) hw'
  exact W.objInit (g := F0 m pc la ((Value.ref a :: st).map (tv φ))) hx hb hown (hts _ hl.1) (hts _ hl.2.1) (hts _ hl.2.2) rfl (by rw [hml]; exact h5.1) rfl hd (by omega) (by omega) kk
theorem A.ldc {idx : Nat} {v : Int32} (hd : decode (mcode y) pc = .ok (.ldc idx, 2)) (hl : Cond.constant (mcls y) idx v ∈ gt) (kk : A d y (pc + 2) ls (.int v :: st) G kc ks Q) : A d y pc ls st G kc ks Q := by
  intro l D N0 r φ0 G0 mc ms p e R s m args below meth c H locs cells slots φ la h0 h1 h2 h3 h4 h5 h6 h7
  exact lv_ldc h0.1 h0.2.1 h0.2.2.2.2.1 (h0.2.2.2.2.2.1 _ hl) hd (kk l D N0 r φ0 G0 mc ms p e R s m args below meth c H locs cells slots φ la h0 h1 h2 h3 h4 h5 h6 (okl_cons okv_i h7))
theorem A.ldc2 {idx : Nat} {v : Int64} (hd : decode (mcode y) pc = .ok (.ldc2_w idx, 3)) (hl : Cond.constantLong (mcls y) idx v ∈ gt) (kk : A d y (pc + 3) ls (.long v :: st) G kc ks Q) : A d y pc ls st G kc ks Q := by
  intro l D N0 r φ0 G0 mc ms p e R s m args below meth c H locs cells slots φ la h0 h1 h2 h3 h4 h5 h6 h7
  exact lv_ldc2 h0.1 h0.2.1 h0.2.2.2.2.1 (h0.2.2.2.2.2.1 _ hl) hd (kk l D N0 r φ0 G0 mc ms p e R s m args below meth c H locs cells slots φ la h0 h1 h2 h3 h4 h5 h6 (okl_cons okv_l h7))
def LkM (own : String) (idx : Nat) (x : MethodName) (cc : ByteArray) (n : Nat) : Prop := Cond.methodLink own idx x ∈ gt ∧ Cond.static x ∈ gt ∧ Cond.initialized "java/lang/Math" ∈ gt ∧ Cond.code x cc n (some .int) ∈ gt
theorem A.max {idx : Nat} {x z : Int32} (hd : decode (mcode y) pc = .ok (.invokestatic idx, 3)) (hl : LkM (mcls y) idx Lib.Math.max.name Lib.Math.max.code 2) (hw : (st.map fun v => v.category).sum ≤ 8) (hdd : 1 ≤ d) (kk : A d y (pc + 3) ls (.int (if x < z then z else x) :: st) G kc ks Q) : A d y pc ls (.int z :: .int x :: st) G kc ks Q := by
  intro l D N0 r φ0 G0 mc ms p e R s m args below meth c H locs cells slots φ la h0 h1 h2 h3 h4 h5 h6 h7
  have kk := kk l D N0 r φ0 G0 mc ms p e R s m args below meth c H locs cells slots φ la h0 h1 h2 h3 h4 h5 h6 (okl_cons okv_i (okl_tail (okl_tail h7)))
  obtain ⟨hx, hb, hr, hml, hown, hts, hlocks, hnm, hK, hSt, hd1, hd2, hN, hnx⟩ := h0
  exact va_mmax hx hb (hml.trans h5.1.symm) hown (hts _ hl.1) (hts _ hl.2.1) (hts _ hl.2.2.1) (hts _ hl.2.2.2) (by omega) (by rw [catm]; omega) (by omega) (by omega) hd kk
theorem A.min {idx : Nat} {x z : Int32} (hd : decode (mcode y) pc = .ok (.invokestatic idx, 3)) (hl : LkM (mcls y) idx Lib.Math.min.name Lib.Math.min.code 2) (hw : (st.map fun v => v.category).sum ≤ 8) (hdd : 1 ≤ d) (kk : A d y (pc + 3) ls (.int (if z < x then z else x) :: st) G kc ks Q) : A d y pc ls (.int z :: .int x :: st) G kc ks Q := by
  intro l D N0 r φ0 G0 mc ms p e R s m args below meth c H locs cells slots φ la h0 h1 h2 h3 h4 h5 h6 h7
  have kk := kk l D N0 r φ0 G0 mc ms p e R s m args below meth c H locs cells slots φ la h0 h1 h2 h3 h4 h5 h6 (okl_cons okv_i (okl_tail (okl_tail h7)))
  obtain ⟨hx, hb, hr, hml, hown, hts, hlocks, hnm, hK, hSt, hd1, hd2, hN, hnx⟩ := h0
  exact va_mmin hx hb (hml.trans h5.1.symm) hown (hts _ hl.1) (hts _ hl.2.1) (hts _ hl.2.2.1) (hts _ hl.2.2.2) (by omega) (by rw [catm]; omega) (by omega) (by omega) hd kk
theorem A.abs {idx : Nat} {x : Int32} (hd : decode (mcode y) pc = .ok (.invokestatic idx, 3)) (hl : LkM (mcls y) idx Lib.Math.abs.name Lib.Math.abs.code 1) (hw : (st.map fun v => v.category).sum ≤ 8) (hdd : 1 ≤ d) (kk : A d y (pc + 3) ls (.int (if 0 ≤ x then x else 0 - x) :: st) G kc ks Q) : A d y pc ls (.int x :: st) G kc ks Q := by
  intro l D N0 r φ0 G0 mc ms p e R s m args below meth c H locs cells slots φ la h0 h1 h2 h3 h4 h5 h6 h7
  have kk := kk l D N0 r φ0 G0 mc ms p e R s m args below meth c H locs cells slots φ la h0 h1 h2 h3 h4 h5 h6 (okl_cons okv_i (okl_tail h7))
  obtain ⟨hx, hb, hr, hml, hown, hts, hlocks, hnm, hK, hSt, hd1, hd2, hN, hnx⟩ := h0
  exact va_mabs hx hb (hml.trans h5.1.symm) hown (hts _ hl.1) (hts _ hl.2.1) (hts _ hl.2.2.1) (hts _ hl.2.2.2) (by omega) (by rw [catm]; omega) (by omega) (by omega) hd kk
/-- two references that differ, or are one -/
theorem A.acmp_eq_t {a : Nat} {off : Int} (tgt : Nat) (ht : (pc : Int) + off = (tgt : Int)) (hd : decode (mcode y) pc = .ok (.if_acmp .eq off, 3)) (kk : A d y tgt ls st G kc ks Q) : A d y pc ls (.ref a :: .ref a :: st) G kc ks Q := by
  refine A.pure (fun {p l e R s m args below meth c H locs cells slots Z la φ} hx hb k => ?_) (fun _ h => okl_tail (okl_tail h)) kk
  exact lv_acmp_eq (rx := some (φ a)) (ry := some (φ a)) hx hb hd ht (fun _ => k) (fun h => absurd rfl h)
theorem A.acmp_eq_f {a b : Nat} {off : Int} (hd : decode (mcode y) pc = .ok (.if_acmp .eq off, 3)) (ha : 16 ≤ a) (ga : G a ≠ none) (hb : b < 16) {tgt : Nat} (ht : (pc : Int) + off = (tgt : Int)) (kk : A d y (pc + 3) ls st G kc ks Q) (hb1 : b = 1) : A d y pc ls (.ref b :: .ref a :: st) G kc ks Q := by
  intro l D N0 r φ0 G0 mc ms p e R s m args below meth c H locs cells slots φ la h0 h1 h2 h3 h4 h5 h6 h7
  have kk := kk l D N0 r φ0 G0 mc ms p e R s m args below meth c H locs cells slots φ la h0 h1 h2 h3 h4 h5 h6 (okl_tail (okl_tail h7))
  obtain ⟨c0, hc0⟩ := Option.ne_none_iff_exists'.mp ga
  obtain ⟨e', hP, hz, hok, hge⟩ := h1.at ha hc0
  have hr1 := h0.2.2.2.2.2.2.2.2.2.1.2.2.2
  obtain ⟨L, E, g1, g2, g3, g4, g5, g6, g7⟩ := h1
  have e1 : φ b = r 1 := by rw [hb1]; exact g6 1 (by omega)
  refine lv_acmp_eq (rx := some (φ a)) (ry := some (φ b)) h0.1 h0.2.1 hd ht (fun h => ?_) (fun _ => kk)
  have := Option.some.inj h
  omega
theorem A.acmp_ne_f {a : Nat} {off : Int} {tgt : Nat} (ht : (pc : Int) + off = (tgt : Int)) (hd : decode (mcode y) pc = .ok (.if_acmp .ne off, 3)) (kk : A d y (pc + 3) ls st G kc ks Q) : A d y pc ls (.ref a :: .ref a :: st) G kc ks Q := by
  refine A.pure (fun {p l e R s m args below meth c H locs cells slots Z la φ} hx hb k => ?_) (fun _ h => okl_tail (okl_tail h)) kk
  exact lv_acmp_ne (rx := some (φ a)) (ry := some (φ a)) hx hb hd ht (fun h => absurd rfl h) (fun _ => k)
/-- the mirror of Object[], as a constant and as an array's class -/
theorem A.ldcM {idx : Nat} (hd : decode (mcode y) pc = .ok (.ldc idx, 2)) (hl : Cond.classLink (mcls y) idx "[Ljava/lang/Object;" ∈ gt) (kk : A d y (pc + 2) ls (.ref 3 :: st) G kc ks Q) : A d y pc ls st G kc ks Q := by
  intro l D N0 r φ0 G0 mc ms p e R s m args below meth c H locs cells slots φ la h0 h1 h2 h3 h4 h5 h6 h7
  have kk := kk l D N0 r φ0 G0 mc ms p e R s m args below meth c H locs cells slots φ la h0 h1 h2 h3 h4 h5 h6 (okl_cons (okv_r (Or.inl (by omega))) h7)
  obtain ⟨hx, hb, hr, hml, hown, hts, hlocks, hnm, hK, hSt, hd1, hd2, hN, hnx⟩ := h0
  obtain ⟨L, E, g1, g2, g3, g4, g5, g6, g7⟩ := h1
  have e1 : φ 3 = r 3 := g6 3 (by omega)
  have kk : W p l e R s m args below meth c H locs cells slots (MQ below (AQ D N0 r φ0 G0 Q) args s mc ms (fun q => N0 ≤ q)) (F0 m (pc + 2) la (.ref (φ 3) :: st.map (tv φ))) := kk
  rw [e1] at kk
  exact va_ldcM hx hb hown (hts _ hl) hSt.2.2.1 hd kk
def LkG (own : String) (idx : Nat) : Prop := Cond.methodLink own idx ⟨"java/lang/Object", "getClass", "()Ljava/lang/Class;"⟩ ∈ gt ∧ Cond.selects "[Ljava/lang/Object;" ⟨"java/lang/Object", "getClass", "()Ljava/lang/Class;"⟩ ⟨"java/lang/Object", "getClass", "()Ljava/lang/Class;"⟩ ∈ gt ∧ Cond.instanceMethod ⟨"java/lang/Object", "getClass", "()Ljava/lang/Class;"⟩ ∈ gt ∧ Cond.native ⟨"java/lang/Object", "getClass", "()Ljava/lang/Class;"⟩ ∈ gt
theorem A.getClass {idx a n : Nat} {f : Nat → Option Nat} (hd : decode (mcode y) pc = .ok (.invokevirtual idx, 3)) (hl : LkG (mcls y) idx) (ha : G a = some (aR (.object "java/lang/Object") n f)) (hw : (st.map fun v => v.category).sum ≤ 8) (hdd : 1 ≤ d) (kk : A d y (pc + 3) ls (.ref 3 :: st) G kc ks Q) : A d y pc ls (.ref a :: st) G kc ks Q := by
  intro l D N0 r φ0 G0 mc ms p e R s m args below meth c H locs cells slots φ la h0 h1 h2 h3 h4 h5 h6 h7
  have kk := kk l D N0 r φ0 G0 mc ms p e R s m args below meth c H locs cells slots φ la h0 h1 h2 h3 h4 h5 h6 (okl_cons (okv_r (Or.inl (by omega))) (okl_tail h7))
  have h16 := h1.hi ha (fun n f h => by cases h)
  obtain ⟨e', hP, ⟨cA, rfl, hA1, hA2⟩, hok, -⟩ := h1.at h16 ha
  obtain ⟨hx, hb, hr, hml, hown, hts, hlocks, hnm, hK, hSt, hd1, hd2, hN, hnx⟩ := h0
  obtain ⟨L, E, g1, g2, g3, g4, g5, g6, g7⟩ := h1
  have e1 : φ 3 = r 3 := g6 3 (by omega)
  have kk : W p l e R s m args below meth c H locs cells slots (MQ below (AQ D N0 r φ0 G0 Q) args s mc ms (fun q => N0 ≤ q)) (F0 m (pc + 3) la (.ref (φ 3) :: st.map (tv φ))) := kk
  rw [e1] at kk
  obtain ⟨kA, comp, r1, r2, r3, r4⟩ := hA2
  exact va_getC (C := "[Ljava/lang/Object;") hx hb (hml.trans h5.1.symm) hown (hts _ hl.1) (va_Dc.use hnx.2.2.2.2) (hts _ hl.2.1) (hts _ hl.2.2.1) (hts _ hl.2.2.2) hSt.2.2.1 ⟨_, hP 0 _ rfl, rfl, r4⟩ (by omega) (by rw [catm]; omega) hd kk
end MAKE
