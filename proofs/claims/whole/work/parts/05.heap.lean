/-! ROWS OVER THE HEAP -/
def CK (ci : Nat) (C : String) (T : u_T) (N : Nat) (ty : Nat → FieldType) : Prop :=
  classes[ci]? = some (C, T, N) ∧ (∀ w ∈ u_ws C T N, w ∈ gt) ∧ (∀ k, k < N → parseFieldDescriptor (T k).2.2.1 = some (ty k)) ∧ (∀ a, a < N → ∀ b, b < N → a ≠ b → (T a).2.1 ≠ (T b).2.1)
/-- the field that the entry idx of own's pool names: the k-th of the class ci, of type t -/
def FL (own : String) (idx ci k : Nat) (t : FieldType) : Prop :=
  ∃ (C : String) (T : u_T) (N : Nat) (ty : Nat → FieldType), CK ci C T N ty ∧ k < N ∧ ty k = t ∧
    ((∃ ref, Cond.fieldLink own idx ref (T k).2.1 (T k).2.2.1 ∈ gt ∧ (ref = (T k).1 ∨ Cond.sameField ref (T k).1 (T k).2.1 (T k).2.2.1 ∈ gt)) ∨ ∃ host, Cond.fieldLinkNest own idx (T k).1 (T k).2.1 (T k).2.2.1 host ∈ nt)
/-- ... and it isn't final -/
def FP (own : String) (idx ci k : Nat) (t : FieldType) : Prop :=
  ∃ (C : String) (T : u_T) (N : Nat) (ty : Nat → FieldType), CK ci C T N ty ∧ k < N ∧ ty k = t ∧ (T k).2.2.2 = false ∧
    ((∃ ref, Cond.fieldLink own idx ref (T k).2.1 (T k).2.2.1 ∈ gt ∧ (ref = (T k).1 ∨ Cond.sameField ref (T k).1 (T k).2.1 (T k).2.2.1 ∈ gt)) ∨ ∃ host, Cond.fieldLinkNest own idx (T k).1 (T k).2.1 (T k).2.2.1 host ∈ nt)
/-- ... final, of own itself -/
def FF (own : String) (idx ci k : Nat) (t : FieldType) : Prop :=
  ∃ (C : String) (T : u_T) (N : Nat) (ty : Nat → FieldType), CK ci C T N ty ∧ k < N ∧ ty k = t ∧ (T k).2.2.2 = true ∧ (T k).1 = own ∧ Cond.fieldLink own idx (T k).1 (T k).2.1 (T k).2.2.1 ∈ gt
def fitv (t : FieldType) (v : Value) : Bool := match t, v with
  | .int, .int _ => true
  | .object _, .ref _ => true
  | .object _, .null => true
  | .array _, .ref _ => true
  | .array _, .null => true
  | _, _ => false
theorem fitv_ok {t : FieldType} {v : Value} (h : fitv t v = true) (φ : Nat → Nat) : narrow t (tv φ v) = tv φ v ∧ fits t (tv φ v) = true := by
  cases t <;> cases v <;> first | (cases h; done) | exact ⟨rfl, rfl⟩
section HEAP
variable {d : Nat} {y : MI} {pc : Nat} {ls : List (Option Value)} {st : List Value} {G : AHp} {kc ks : Nat} {Q : Option Value → AHp → Prop}
theorem A.getfield {idx ci k a : Nat} {t : FieldType} {fs : List Value} {v : Value} (hf : FL (mcls y) idx ci k t) (hd : decode (mcode y) pc = .ok (.getfield idx, 3)) (ha : G a = some (oB ci fs)) (hv : fs[k]? = some v) (kk : A d y (pc + 3) ls (v :: st) G kc ks Q) : A d y pc ls (.ref a :: st) G kc ks Q := by
  intro l D N0 r φ0 G0 mc ms p e R s m args below meth c H locs cells slots φ la h0 h1 h2 h3 h4 h5 h6 h7
  have h16 := h1.hi ha (fun n f h => by cases h)
  obtain ⟨e', hP, hz, hok, -⟩ := h1.at h16 ha
  have kk := kk l D N0 r φ0 G0 mc ms p e R s m args below meth c H locs cells slots φ la h0 h1 h2 h3 h4 h5 h6 (okl_cons (hok v (List.mem_of_getElem? hv)) (okl_tail h7))
  obtain ⟨hx, hb, hr, hml, hown, hts, hlocks, hnm, hK, hSt, hd1, hd2, hN, hnx⟩ := h0
  cases (show e' = _ from hz)
  obtain ⟨C, T, N, ty, ⟨hc, hin, hty, hnm⟩, hk, -, hl⟩ := hf
  have hv' : (fs.map (tv φ))[k]? = some (tv φ v) := by rw [List.getElem?_map, hv]; rfl
  rcases hl with ⟨ref, hl, hs⟩ | ⟨host, hl⟩
  · exact va_get (D := D) (ci := ci) hx hb hts hin hown hK hP 0 rfl hc k hk (hts _ hl) (fun x h => by
      rcases hs with rfl | hs
      · exact h
      · exact u_same (hts _ hs) x h) hv' hd kk
  · exact va_getN (D := D) (ci := ci) hx hb hts hin hown hK hP 0 rfl hc k hk (va_Nw.use rfl (hnx.1 _ hl)) (fun x h => h) hv' hd kk
theorem okc_set {G : AHp} {ci k : Nat} {fs : List Value} {v : Value} (h : okc G (oB ci fs)) (hv : okv G v) : okc G (oB ci (fs.set k v)) := fun u hu => by
  rcases List.mem_or_eq_of_mem_set hu with h1 | h1
  · exact h u h1
  · rw [h1]; exact hv
theorem A.putfield {idx ci k a : Nat} {t : FieldType} {fs : List Value} {v : Value} (hf : FP (mcls y) idx ci k t) (hd : decode (mcode y) pc = .ok (.putfield idx, 3)) (ha : G a = some (oB ci fs)) (hl : k < fs.length) (hfit : fitv t v = true) (kk : A d y (pc + 3) ls st (up G a (oB ci (fs.set k v))) kc ks Q) : A d y pc ls (v :: .ref a :: st) G kc ks Q := by
  intro l D N0 r φ0 G0 mc ms p e R s m args below meth c H locs cells slots φ la h0 h1 h2 h3 h4 h5 h6 h7
  have h16 := h1.hi ha (fun n f h => by cases h)
  obtain ⟨L, E, k0, hk0, hP, hD, hz, hok, back⟩ := h1.gap h16 ha
  have hz' : E a = .inr (ci, fs.map (tv φ)) := hz
  rw [hz'] at hk0
  have hmono : ∀ b, G b ≠ none → up G a (oB ci (fs.set k v)) b ≠ none := fun b hb => up_ne hb
  have fin : ∀ (H1 : Heap) (locs1 : List Loc), va_P D classes ((Wl φ E L).set k0 (φ a, .inr (ci, (fs.map (tv φ)).set k (tv φ v)))) H1 → va_D (fun q => N0 ≤ q) ((Wl φ E L).set k0 (φ a, .inr (ci, (fs.map (tv φ)).set k (tv φ v)))) → va_S (fun q => N0 ≤ q) s.heap H1 locs1 → W p l e R s m args below meth c H1 locs1 cells slots (MQ below (AQ D N0 r φ0 G0 Q) args s mc ms (fun q => N0 ≤ q)) (F0 m (pc + 3) la (st.map (tv φ))) := fun H1 locs1 hP1 hD1 hS1 =>
    kk l D N0 r φ0 G0 mc ms p e R s m args below meth c H1 locs1 cells slots φ la h0 (back (oB ci (fs.set k v)) _ H1 (by show _ = _; rw [List.map_set]) (okc_set hok (okl_head h7)) hP1 hD1 (low_kept h0.2.2.2.2.2.2.2.2.2.2.2.2.1 h3 hS1)) h2.put hS1 h4 h5 (oks_mono hmono h6) (okl_mono hmono (okl_tail (okl_tail h7)))
  obtain ⟨hx, hb, hr, hml, hown, hts, hlocks, hnm, hK, hSt, hd1, hd2, hN, hnx⟩ := h0
  obtain ⟨C, T, N, ty, ⟨hc, hin, hty, hnm⟩, hk, ht, hfin, hlk⟩ := hf
  have hpd : parseFieldDescriptor (T k).2.2.1 = some t := by rw [hty k hk, ht]
  obtain ⟨f1, f2⟩ := fitv_ok hfit φ
  rcases hlk with ⟨ref, hlk, hs⟩ | ⟨host, hlk⟩
  · exact va_put (D := D) (ci := ci) hx hb hts hin ty hty hnm hown hK hP hD h3 k0 hk0 hc k hk (hts _ hlk) (fun x h => by
      rcases hs with rfl | hs
      · exact h
      · exact u_same (hts _ hs) x h) hfin hpd f1 f2 (by simpa using hl) hd fin
  · exact va_putN (D := D) (ci := ci) hx hb hts hin ty hty hnm hown hK hP hD h3 k0 hk0 hc k hk (va_Nw.use rfl (hnx.1 _ hlk)) (fun x h => h) hfin hpd f1 f2 (by simpa using hl) hd fin
theorem A.putfin {idx ci k a : Nat} {t : FieldType} {fs : List Value} {v : Value} (hf : FF (mcls y) idx ci k t) (hi : y.1.name = "<init>") (hd : decode (mcode y) pc = .ok (.putfield idx, 3)) (ha : G a = some (oB ci fs)) (hl : k < fs.length) (hfit : fitv t v = true) (kk : A d y (pc + 3) ls st (up G a (oB ci (fs.set k v))) kc ks Q) : A d y pc ls (v :: .ref a :: st) G kc ks Q := by
  intro l D N0 r φ0 G0 mc ms p e R s m args below meth c H locs cells slots φ la h0 h1 h2 h3 h4 h5 h6 h7
  have h16 := h1.hi ha (fun n f h => by cases h)
  obtain ⟨L, E, k0, hk0, hP, hD, hz, hok, back⟩ := h1.gap h16 ha
  have hz' : E a = .inr (ci, fs.map (tv φ)) := hz
  rw [hz'] at hk0
  have hmono : ∀ b, G b ≠ none → up G a (oB ci (fs.set k v)) b ≠ none := fun b hb => up_ne hb
  have fin : ∀ (H1 : Heap) (locs1 : List Loc), va_P D classes ((Wl φ E L).set k0 (φ a, .inr (ci, (fs.map (tv φ)).set k (tv φ v)))) H1 → va_D (fun q => N0 ≤ q) ((Wl φ E L).set k0 (φ a, .inr (ci, (fs.map (tv φ)).set k (tv φ v)))) → va_S (fun q => N0 ≤ q) s.heap H1 locs1 → W p l e R s m args below meth c H1 locs1 cells slots (MQ below (AQ D N0 r φ0 G0 Q) args s mc ms (fun q => N0 ≤ q)) (F0 m (pc + 3) la (st.map (tv φ))) := fun H1 locs1 hP1 hD1 hS1 =>
    kk l D N0 r φ0 G0 mc ms p e R s m args below meth c H1 locs1 cells slots φ la h0 (back (oB ci (fs.set k v)) _ H1 (by show _ = _; rw [List.map_set]) (okc_set hok (okl_head h7)) hP1 hD1 (low_kept h0.2.2.2.2.2.2.2.2.2.2.2.2.1 h3 hS1)) h2.put hS1 h4 h5 (oks_mono hmono h6) (okl_mono hmono (okl_tail (okl_tail h7)))
  obtain ⟨hx, hb, hr, hml, hown, hts, hlocks, hname, hK, hSt, hd1, hd2, hN, hnx⟩ := h0
  obtain ⟨C, T, N, ty, ⟨hc, hin, hty, hnm⟩, hk, ht, hfin, hdecl, hlk⟩ := hf
  have hpd : parseFieldDescriptor (T k).2.2.1 = some t := by rw [hty k hk, ht]
  obtain ⟨f1, f2⟩ := fitv_ok hfit φ
  exact va_putF (D := D) (ci := ci) hx hb hts hin ty hty hnm hown hK hP hD h3 k0 hk0 hc k hk (hts _ hlk) (fun x h => h) hfin (hname.trans hi) hdecl hpd f1 f2 (by simpa using hl) hd fin
/-- an int array's element; the script's too -/
theorem A.iaload {a n j : Nat} {f : Nat → Int32} {i : Int32} (hd : decode (mcode y) pc = .ok (.iaload, 1)) (ha : G a = some (aI n f)) (hi : i.toInt = (j : Int)) (hj : j < n) (kk : A d y (pc + 1) ls (.int (f j) :: st) G kc ks Q) : A d y pc ls (.int i :: .ref a :: st) G kc ks Q := by
  intro l D N0 r φ0 G0 mc ms p e R s m args below meth c H locs cells slots φ la h0 h1 h2 h3 h4 h5 h6 h7
  have kk := kk l D N0 r φ0 G0 mc ms p e R s m args below meth c H locs cells slots φ la h0 h1 h2 h3 h4 h5 h6 (okl_cons okv_i (okl_tail (okl_tail h7)))
  obtain ⟨hx, hb, hr, hml, hown, hts, hlocks, hnm, hK, hSt, hd1, hd2, hN, hnx⟩ := h0
  have hcl : i.toNatClampNeg = j := by show i.toInt.toNat = j; omega
  have hin : vp_in i n := vp_in_iff.mpr ⟨by omega, by omega⟩
  rcases Nat.lt_or_ge a 16 with h16 | h16
  · obtain ⟨L, E, g1, g2, g3, g4, g5, g6, g7⟩ := h1
    obtain ⟨rfl, n', f', e1, ⟨scr, x1, x2, x3, x4, x5⟩, hlt⟩ := g7 a _ h16 ha
    cases e1
    refine W.iald (v := .int (f j)) (cell := scr) (a := r 2) hx hb x1 x2 x3 (by rw [x4]; exact hin) (by rw [hcl]; exact x5 j hj) rfl ?_ hd kk
    show [_, Value.ref (φ 2)] ++ _ = _
    rw [g6 2 (by omega)]
    rfl
  · obtain ⟨e', hP, ⟨cA, rfl, hA1, hA2⟩, hok, -⟩ := h1.at h16 ha
    have kk : W p l e R s m args below meth c H locs cells slots (MQ below (AQ D N0 r φ0 G0 Q) args s mc ms (fun q => N0 ≤ q)) (F0 m (pc + 1) la (.int (f i.toNatClampNeg) :: st.map (tv φ))) := by rw [hcl]; exact kk
    exact va_iald (tys := [(cA, .int)]) hx hb ⟨hK.1, fun k q hk => by
      have h0 : k < 1 := (List.getElem?_eq_some_iff.mp hk).1
      rw [show k = 0 by omega] at hk
      cases hk
      exact ⟨hA1, hA2⟩⟩ hP 0 0 rfl rfl hin hd kk
theorem one_ty {D : va_G} {s : State} (hK : va_K D classes [] s) {cA : ClassId} {ty : FieldType} (h1 : ArrOfT s cA ty) (h2 : va_RA s cA ty) : va_K D classes [(cA, ty)] s := ⟨hK.1, fun k q hk => by
  have h0 : k < 1 := (List.getElem?_eq_some_iff.mp hk).1
  rw [show k = 0 by omega] at hk
  cases hk
  exact ⟨h1, h2⟩⟩
theorem A.laload {a n j : Nat} {f : Nat → Int64} {i : Int32} (hd : decode (mcode y) pc = .ok (.laload, 1)) (ha : G a = some (aL n f)) (hi : i.toInt = (j : Int)) (hj : j < n) (kk : A d y (pc + 1) ls (.long (f j) :: st) G kc ks Q) : A d y pc ls (.int i :: .ref a :: st) G kc ks Q := by
  intro l D N0 r φ0 G0 mc ms p e R s m args below meth c H locs cells slots φ la h0 h1 h2 h3 h4 h5 h6 h7
  have kk := kk l D N0 r φ0 G0 mc ms p e R s m args below meth c H locs cells slots φ la h0 h1 h2 h3 h4 h5 h6 (okl_cons okv_l (okl_tail (okl_tail h7)))
  obtain ⟨hx, hb, hr, hml, hown, hts, hlocks, hnm, hK, hSt, hd1, hd2, hN, hnx⟩ := h0
  have hcl : i.toNatClampNeg = j := by show i.toInt.toNat = j; omega
  have hin : vp_in i n := vp_in_iff.mpr ⟨by omega, by omega⟩
  have h16 := h1.hi ha (fun n f h => by cases h)
  obtain ⟨e', hP, ⟨cA, rfl, hA1, hA2⟩, hok, -⟩ := h1.at h16 ha
  have kk : W p l e R s m args below meth c H locs cells slots (MQ below (AQ D N0 r φ0 G0 Q) args s mc ms (fun q => N0 ≤ q)) (F0 m (pc + 1) la (.long (f i.toNatClampNeg) :: st.map (tv φ))) := by rw [hcl]; exact kk
  exact va_lald (tys := [(cA, .long)]) hx hb (one_ty hK hA1 hA2) hP 0 0 rfl rfl hin hd kk
theorem va_rf_map {φ : Nat → Nat} {o : Option Nat} : va_rf (o.map φ) = tv φ (va_rf o) := by cases o <;> rfl
/-- an element of an array of objects -/
theorem A.aaload {a n j : Nat} {C : String} {f : Nat → Option Nat} {i : Int32} (hd : decode (mcode y) pc = .ok (.aaload, 1)) (ha : G a = some (aR (.object C) n f)) (hi : i.toInt = (j : Int)) (hj : j < n) (kk : A d y (pc + 1) ls (va_rf (f j) :: st) G kc ks Q) : A d y pc ls (.int i :: .ref a :: st) G kc ks Q := by
  intro l D N0 r φ0 G0 mc ms p e R s m args below meth c H locs cells slots φ la h0 h1 h2 h3 h4 h5 h6 h7
  have h16 := h1.hi ha (fun n f h => by cases h)
  obtain ⟨e', hP, ⟨cA, rfl, hA1, hA2⟩, hok, -⟩ := h1.at h16 ha
  have hokj : okv G (va_rf (f j)) := by
    cases hf : f j with
    | none => exact okv_0
    | some b => exact okv_r (hok j b hf)
  have kk := kk l D N0 r φ0 G0 mc ms p e R s m args below meth c H locs cells slots φ la h0 h1 h2 h3 h4 h5 h6 (okl_cons hokj (okl_tail (okl_tail h7)))
  obtain ⟨hx, hb, hr, hml, hown, hts, hlocks, hnm, hK, hSt, hd1, hd2, hN, hnx⟩ := h0
  have hcl : i.toNatClampNeg = j := by show i.toInt.toNat = j; omega
  have hin : vp_in i n := vp_in_iff.mpr ⟨by omega, by omega⟩
  have kk : W p l e R s m args below meth c H locs cells slots (MQ below (AQ D N0 r φ0 G0 Q) args s mc ms (fun q => N0 ≤ q)) (F0 m (pc + 1) la (va_rf ((f i.toNatClampNeg).map φ) :: st.map (tv φ))) := by rw [hcl, va_rf_map]; exact kk
  exact va_aldq (tys := [(cA, .object C)]) (f := fun j => (f j).map φ) hx hb (one_ty hK hA1 hA2) hP 0 0 rfl rfl hin hd kk
/-- a row of an array of int arrays -/
theorem A.aaload2 {a n j : Nat} {f : Nat → Option Nat} {i : Int32} (hd : decode (mcode y) pc = .ok (.aaload, 1)) (ha : G a = some (aR (.array .int) n f)) (hi : i.toInt = (j : Int)) (hj : j < n) (kk : A d y (pc + 1) ls (va_rf (f j) :: st) G kc ks Q) : A d y pc ls (.int i :: .ref a :: st) G kc ks Q := by
  intro l D N0 r φ0 G0 mc ms p e R s m args below meth c H locs cells slots φ la h0 h1 h2 h3 h4 h5 h6 h7
  have h16 := h1.hi ha (fun n f h => by cases h)
  obtain ⟨e', hP, ⟨cA, rfl, hA1, hA2⟩, hok, -⟩ := h1.at h16 ha
  have hokj : okv G (va_rf (f j)) := by
    cases hf : f j with
    | none => exact okv_0
    | some b => exact okv_r (hok j b hf)
  have kk := kk l D N0 r φ0 G0 mc ms p e R s m args below meth c H locs cells slots φ la h0 h1 h2 h3 h4 h5 h6 (okl_cons hokj (okl_tail (okl_tail h7)))
  obtain ⟨hx, hb, hr, hml, hown, hts, hlocks, hnm, hK, hSt, hd1, hd2, hN, hnx⟩ := h0
  have hcl : i.toNatClampNeg = j := by show i.toInt.toNat = j; omega
  have hin : vp_in i n := vp_in_iff.mpr ⟨by omega, by omega⟩
  have hlt : i.toNatClampNeg < n := by omega
  refine W.aald (v := va_rf ((f j).map φ)) (ty := .array .int) hx hb (hP 0 _ rfl) (hA1 n (fun j => va_rf ((f j).map φ))) rfl (fun q => by cases q) (by show ¬ (i < 0 ∨ (arrV _ _ _).slots.size ≤ _); rw [arrV_size]; exact hin) (by show (arrV cA n (fun j => va_rf ((f j).map φ))).slots[_]? = _; rw [arrV_read _ _ hlt, hcl]) rfl rfl hd ?_
  rw [va_rf_map]
  exact kk
theorem A.iastore {a n j : Nat} {f : Nat → Int32} {i x : Int32} (hd : decode (mcode y) pc = .ok (.iastore, 1)) (ha : G a = some (aI n f)) (h2a : a ≠ 2) (hi : i.toInt = (j : Int)) (hj : j < n) (kk : A d y (pc + 1) ls st (up G a (aI n (upd f j x))) kc ks Q) : A d y pc ls (.int x :: .int i :: .ref a :: st) G kc ks Q := by
  intro l D N0 r φ0 G0 mc ms p e R s m args below meth c H locs cells slots φ la h0 h1 h2 h3 h4 h5 h6 h7
  have h16 := h1.hi2 ha h2a
  have hcl : i.toNatClampNeg = j := by show i.toInt.toNat = j; omega
  have hin : vp_in i n := vp_in_iff.mpr ⟨by omega, by omega⟩
  obtain ⟨L, E, k0, hk0, hP, hD, ⟨cA, hz, hA1, hA2⟩, hok, back⟩ := h1.gap h16 ha
  rw [hz] at hk0
  have hmono : ∀ b, G b ≠ none → up G a (aI n (upd f j x)) b ≠ none := fun b hb => up_ne hb
  refine va_iast (tys := [(cA, .int)]) h0.1 h0.2.1 (one_ty h0.2.2.2.2.2.2.2.2.1 hA1 hA2) hP hD h3 k0 0 hk0 rfl hin hd (fun H1 locs1 hP1 hD1 hS1 => ?_)
  rw [hcl] at hP1 hD1
  exact kk l D N0 r φ0 G0 mc ms p e R s m args below meth c H1 locs1 cells slots φ la h0 (back (aI n (upd f j x)) _ H1 ⟨cA, rfl, hA1, hA2⟩ trivial hP1 hD1 (low_kept h0.2.2.2.2.2.2.2.2.2.2.2.2.1 h3 hS1)) h2.put hS1 h4 h5 (oks_mono hmono h6) (okl_mono hmono (okl_tail (okl_tail (okl_tail h7))))
theorem A.lastore {a n j : Nat} {f : Nat → Int64} {i : Int32} {x : Int64} (hd : decode (mcode y) pc = .ok (.lastore, 1)) (ha : G a = some (aL n f)) (hi : i.toInt = (j : Int)) (hj : j < n) (kk : A d y (pc + 1) ls st (up G a (aL n (vp_updL f j x))) kc ks Q) : A d y pc ls (.long x :: .int i :: .ref a :: st) G kc ks Q := by
  intro l D N0 r φ0 G0 mc ms p e R s m args below meth c H locs cells slots φ la h0 h1 h2 h3 h4 h5 h6 h7
  have h16 := h1.hi ha (fun n f h => by cases h)
  have hcl : i.toNatClampNeg = j := by show i.toInt.toNat = j; omega
  have hin : vp_in i n := vp_in_iff.mpr ⟨by omega, by omega⟩
  obtain ⟨L, E, k0, hk0, hP, hD, ⟨cA, hz, hA1, hA2⟩, hok, back⟩ := h1.gap h16 ha
  rw [hz] at hk0
  have hmono : ∀ b, G b ≠ none → up G a (aL n (vp_updL f j x)) b ≠ none := fun b hb => up_ne hb
  refine va_last (tys := [(cA, .long)]) h0.1 h0.2.1 (one_ty h0.2.2.2.2.2.2.2.2.1 hA1 hA2) hP hD h3 k0 0 hk0 rfl hin hd (fun H1 locs1 hP1 hD1 hS1 => ?_)
  rw [hcl] at hP1 hD1
  exact kk l D N0 r φ0 G0 mc ms p e R s m args below meth c H1 locs1 cells slots φ la h0 (back (aL n (vp_updL f j x)) _ H1 ⟨cA, rfl, hA1, hA2⟩ trivial hP1 hD1 (low_kept h0.2.2.2.2.2.2.2.2.2.2.2.2.1 h3 hS1)) h2.put hS1 h4 h5 (oks_mono hmono h6) (okl_mono hmono (okl_tail (okl_tail (okl_tail h7))))
theorem A.alen {a : Nat} {ty : FieldType} {x : vp_A} {v : Int32} (hd : decode (mcode y) pc = .ok (.arraylength, 1)) (ha : G a = some (.inl (ty, x))) (hv : Int32.ofNat x.1 = v) (kk : A d y (pc + 1) ls (.int v :: st) G kc ks Q) : A d y pc ls (.ref a :: st) G kc ks Q := by
  intro l D N0 r φ0 G0 mc ms p e R s m args below meth c H locs cells slots φ la h0 h1 h2 h3 h4 h5 h6 h7
  have kk := kk l D N0 r φ0 G0 mc ms p e R s m args below meth c H locs cells slots φ la h0 h1 h2 h3 h4 h5 h6 (okl_cons okv_i (okl_tail h7))
  obtain ⟨hx, hb, hr, hml, hown, hts, hlocks, hnm, hK, hSt, hd1, hd2, hN, hnx⟩ := h0
  rcases Nat.lt_or_ge a 16 with h16 | h16
  · obtain ⟨L, E, g1, g2, g3, g4, g5, g6, g7⟩ := h1
    obtain ⟨rfl, n', f', e1, ⟨scr, x1, x2, x3, x4, x5⟩, hlt⟩ := g7 a _ h16 ha
    cases e1
    refine W.alen (cell := scr) (a := r 2) (n := v) hx hb x1 x2 (by rw [x4]; exact hv) rfl ?_ hd kk
    show [Value.ref (φ 2)] ++ _ = _
    rw [g6 2 (by omega)]
    rfl
  · obtain ⟨e', hP, ⟨cA, rfl, hA1, hA2⟩, hok, -⟩ := h1.at h16 ha
    exact va_alen (tys := [(cA, ty)]) hx hb (one_ty hK hA1 hA2) hP 0 0 rfl rfl (by obtain ⟨n, f | f | f | f | f⟩ := x <;> exact hv) hd kk
/-- the length of the JDK's shared empty array -/
theorem A.alen1 (hd : decode (mcode y) pc = .ok (.arraylength, 1)) (kk : A d y (pc + 1) ls (.int 0 :: st) G kc ks Q) : A d y pc ls (.ref 1 :: st) G kc ks Q := by
  intro l D N0 r φ0 G0 mc ms p e R s m args below meth c H locs cells slots φ la h0 h1 h2 h3 h4 h5 h6 h7
  have kk := kk l D N0 r φ0 G0 mc ms p e R s m args below meth c H locs cells slots φ la h0 h1 h2 h3 h4 h5 h6 (okl_cons okv_i (okl_tail h7))
  obtain ⟨hx, hb, hr, hml, hown, hts, hlocks, hnm, hK, hSt, hd1, hd2, hN, hnx⟩ := h0
  obtain ⟨f, hT⟩ := hSt.2.1
  obtain ⟨L, E, g1, g2, g3, g4, g5, g6, g7⟩ := h1
  have e1 : φ 1 = r 1 := g6 1 (by omega)
  show W p l e R s m args below meth c H locs cells slots (MQ below (AQ D N0 r φ0 G0 Q) args s mc ms (fun q => N0 ≤ q)) (F0 m pc la (.ref (φ 1) :: st.map (tv φ)))
  rw [e1]
  exact va_tlen hx hb hT h3 rfl hd kk
/-- the JDK's shared empty array is read -/
theorem A.getstatic {idx : Nat} (hl : Cond.fieldLink (mcls y) idx "java/util/ArrayList" "DEFAULTCAPACITY_EMPTY_ELEMENTDATA" "[Ljava/lang/Object;" ∈ gt) (hd : decode (mcode y) pc = .ok (.getstatic idx, 3)) (kk : A d y (pc + 3) ls (.ref 1 :: st) G kc ks Q) : A d y pc ls st G kc ks Q := by
  intro l D N0 r φ0 G0 mc ms p e R s m args below meth c H locs cells slots φ la h0 h1 h2 h3 h4 h5 h6 h7
  have kk := kk l D N0 r φ0 G0 mc ms p e R s m args below meth c H locs cells slots φ la h0 h1 h2 h3 h4 h5 h6 (okl_cons (okv_r (Or.inl (by omega))) h7)
  obtain ⟨hx, hb, hr, hml, hown, hts, hlocks, hnm, hK, hSt, hd1, hd2, hN, hnx⟩ := h0
  obtain ⟨L, E, g1, g2, g3, g4, g5, g6, g7⟩ := h1
  have e1 : φ 1 = r 1 := g6 1 (by omega)
  have kk : W p l e R s m args below meth c H locs cells slots (MQ below (AQ D N0 r φ0 G0 Q) args s mc ms (fun q => N0 ≤ q)) (F0 m (pc + 3) la (.ref (φ 1) :: st.map (tv φ))) := kk
  rw [e1] at kk
  exact va_gets hx hb hSt.1 h3 hown (hts _ hl) (fun x h => h) hd kk
end HEAP
