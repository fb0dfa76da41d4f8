/-! THE ABSTRACT MACHINE: cells have names (numbers), the heap is a function of names; one judgement A hides the machine. Names below 16 are kept for what was there before: 1 the JDK's shared empty array, 2 the script, 3 the mirror of Object[]. -/
def gt : List Cond := lw_tbl.filter goodWord
theorem gt_in {w : Cond} (h : w ∈ lw_tbl) (hg : goodWord w = true) : w ∈ gt := List.mem_filter.mpr ⟨h, hg⟩
theorem gt_good : GoodIn gt gt := fun w h => ⟨h, good_of_word (List.mem_filter.mp h).2⟩
def isNest : Cond → Bool
  | .fieldLinkNest .. => true
  | .methodLinkNest .. => true
  | .castable .. => true
  | _ => false
def nt : List Cond := lw_tbl.filter isNest
theorem nt_in {w : Cond} (h : w ∈ lw_tbl) (hg : isNest w = true) : w ∈ nt := List.mem_filter.mpr ⟨h, hg⟩
def AOI (U : State) : Prop := (Cond.arrayOver (.array .int)).before #[] U = true
theorem AOI.moved {u U : State} (hvm : u.vm.Alike U.vm) (h : AOI u) : AOI U := by
  unfold AOI Cond.before Cond.holds at h ⊢
  simp only [Cond.value] at h ⊢
  have hf : ∀ n, U.vm.findClass n = u.vm.findClass n := fun n => hvm.findClass n none
  simp only [hf]
  cases hc : u.vm.findClass (FieldType.array .int).toString with
  | none => rw [hc] at h; exact h
  | some comp =>
    rw [hc] at h
    simp only [Option.bind_some, beq_iff_eq] at h ⊢
    rw [Option.bind_eq_some_iff] at h ⊢
    obtain ⟨c, h1, h2⟩ := h
    have e1 := va_idx_bare U.vm comp
    have e2 := va_idx_bare u.vm comp
    have e3 : U.vm.bare = u.vm.bare := by first | exact hvm.bare_eq | exact hvm.bare_eq.symm
    rw [e3] at e1
    refine ⟨c, (e1.symm.trans e2).trans h1, ?_⟩
    rw [Option.map_eq_some_iff] at h2 ⊢
    obtain ⟨k, hk, h3⟩ := h2
    obtain ⟨k', hk', he⟩ := hvm.2.2 _ _ hk
    refine ⟨k', hk', ?_⟩
    rw [he]
    exact h3
/-- the words that no list keeps: links between nest mates, casts, arrays of references -/
def NX (s : State) : Prop := (∀ w ∈ nt, va_Nw w s) ∧ va_AO "AfterFire$Street" s ∧ va_AO "java/lang/Object" s ∧ AOI s ∧ va_Dc s
theorem NX.warm {s U : State} (hW : s.WarmedH U.vm) (h : NX s) : NX U := by
  refine ⟨fun w hw => ?_, h.2.1.moved hW.alike, h.2.2.1.moved hW.alike, h.2.2.2.1.moved hW.alike, h.2.2.2.2.moved hW.alike⟩
  have h1 := h.1 w hw
  have h2 := (List.mem_filter.mp hw).2
  cases w <;> first | (cases h2; done) | exact va_Nw.warmF hW h1 | exact va_Nw.warmM hW h1 | exact va_Nw.warmC hW h1
abbrev ACell : Type := (FieldType × vp_A) ⊕ (Nat × List Value)
abbrev AHp : Type := Nat → Option ACell
abbrev aI (n : Nat) (f : Nat → Int32) : ACell := .inl (.int, n, .inl f)
abbrev aL (n : Nat) (f : Nat → Int64) : ACell := .inl (.long, n, .inr (.inl f))
abbrev aR (ty : FieldType) (n : Nat) (f : Nat → Option Nat) : ACell := .inl (ty, n, .inr (.inr (.inr (.inr f))))
abbrev oB (ci : Nat) (fs : List Value) : ACell := .inr (ci, fs)
def tv (φ : Nat → Nat) : Value → Value
  | .ref a => .ref (φ a)
  | v => v
def ta (φ : Nat → Nat) : vp_A → vp_A
  | (n, .inr (.inr (.inr (.inr f)))) => (n, .inr (.inr (.inr (.inr (fun j => (f j).map φ)))))
  | x => x
def Cz (s : State) (φ : Nat → Nat) (c : ACell) (e : va_E) : Prop := match c with
  | .inl (ty, x) => ∃ cA : ClassId, e = .inl (cA, ta φ x) ∧ ArrOfT s cA ty ∧ va_RA s cA ty
  | .inr (ci, fs) => e = .inr (ci, fs.map (tv φ))
def okn (G : AHp) (a : Nat) : Prop := a < 16 ∨ G a ≠ none
def okv (G : AHp) (v : Value) : Prop := ∀ a, v = .ref a → okn G a
def okc (G : AHp) (c : ACell) : Prop := match c with
  | .inl (_, _, .inr (.inr (.inr (.inr f)))) => ∀ j b, f j = some b → okn G b
  | .inl _ => True
  | .inr (_, fs) => ∀ v ∈ fs, okv G v
def up (G : AHp) (a : Nat) (c : ACell) : AHp := fun b => if b = a then some c else G b
theorem up_s {G : AHp} {a : Nat} {c : ACell} : up G a c a = some c := if_pos rfl
theorem up_n {G : AHp} {a b : Nat} {c : ACell} (h : b ≠ a) : up G a c b = G b := if_neg h
theorem up_e {G : AHp} {a b : Nat} {c : ACell} {x : Option ACell} (h : b ≠ a) (e : G b = x) : up G a c b = x := (up_n h).trans e
theorem up_up {G : AHp} {a : Nat} {c c' : ACell} : up (up G a c) a c' = up G a c' := by
  funext b; unfold up; by_cases h : b = a <;> simp [h]
theorem up_ne {G : AHp} {a b : Nat} {c : ACell} (h : G b ≠ none) : up G a c b ≠ none := by
  by_cases e : b = a
  · subst e; rw [up_s]; simp
  · rw [up_n e]; exact h
def Wl (φ : Nat → Nat) (E : Nat → va_E) (L : List Nat) : va_W := L.map (fun a => (φ a, E a))
/-- the heap H holds the abstract heap G, by the map φ of names -/
def Rel (D : va_G) (N0 : Nat) (r : Nat → Nat) (s : State) (φ : Nat → Nat) (G : AHp) (H : Heap) : Prop :=
  ∃ (L : List Nat) (E : Nat → va_E), L.Nodup ∧ (∀ a, a ∈ L ↔ (16 ≤ a ∧ G a ≠ none)) ∧ (∀ a c, 16 ≤ a → G a = some c → Cz s φ c (E a) ∧ okc G c) ∧ va_P D classes (Wl φ E L) H ∧ va_D (fun q => N0 ≤ q) (Wl φ E L) ∧ (∀ a, a < 16 → φ a = r a) ∧
    (∀ a c, a < 16 → G a = some c → a = 2 ∧ ∃ (n : Nat) (f : Nat → Int32), c = aI n f ∧ va_X (r 2) n f s H ∧ r 2 < N0)
def Ext (φ0 : Nat → Nat) (G0 : AHp) (φ : Nat → Nat) (G : AHp) : Prop := (∀ a, G0 a ≠ none → G a ≠ none ∧ φ a = φ0 a) ∧ ∀ a, a < 16 → φ a = φ0 a
/-- what the machine had before: the shared empty array, the mirror -/
def Sta (N0 : Nat) (r : Nat → Nat) (s : State) (H : Heap) : Prop :=
  va_Z "java/util/ArrayList" "DEFAULTCAPACITY_EMPTY_ELEMENTDATA" "[Ljava/lang/Object;" (.ref (r 1)) (fun q => N0 ≤ q) s H ∧ (∃ f, va_T (.object "java/lang/Object") (r 1) 0 f (fun q => N0 ≤ q) s H) ∧ va_Mi "[Ljava/lang/Object;" (r 3) s ∧ r 1 < N0
def LH (la : Array Slot) (n : Nat) (φ : Nat → Nat) (ls : List (Option Value)) : Prop := la.size = n ∧ lv_wf la ∧ ∀ (i : Nat) (v : Value), ls[i]? = some (some v) → la[i]? = some (.val (tv φ v))
def okl (G : AHp) (st : List Value) : Prop := ∀ v ∈ st, okv G v
def oks (G : AHp) (ls : List (Option Value)) : Prop := ∀ v, some v ∈ ls → okv G v
def Env0 (d : Nat) (y : MI) (D : va_G) (N0 : Nat) (r : Nat → Nat) (p : Program) (R : Room) (s : State) (m : MethodId) (args : Array Value) (meth : Method) (c : Code) : Prop :=
  p.tables.exec = Jvm.exec ∧ c.code = mcode y ∧ meth.sig.returnType = y.2.2.2 ∧ c.maxLocals = y.2.2.1 ∧ s.vm.findClass (mcls y) = some m.cls ∧ (∀ w ∈ gt, w.before args s = true) ∧ meth.locks = false ∧ meth.name = y.1.name ∧ va_K D classes [] s ∧ Sta N0 r s s.heap ∧ d ≤ R.frames ∧ 40 * d ≤ R.locals ∧ N0 ≤ s.heap.size ∧ NX s
def AQ (D : va_G) (N0 : Nat) (r φ0 : Nat → Nat) (G0 : AHp) (Q : Option Value → AHp → Prop) : Array Value → State → Outcome → State → Prop := fun _ st o t =>
  ∃ (v : Option Value) (φ : Nat → Nat) (G : AHp), o = .returned (v.map (tv φ)) ∧ Q v G ∧ Ext φ0 G0 φ G ∧ (∀ u, v = some u → okv G u) ∧ Rel D N0 r t φ G t.heap ∧ va_F (fun q => N0 ≤ q) st t
/-- THE JUDGEMENT: at pc of the method y, with the locals ls, the stack st, the heap G, room for d frames, kc cells and ks slots, the method comes to its end, and there Q holds of its answer and of the heap -/
def A (d : Nat) (y : MI) (pc : Nat) (ls : List (Option Value)) (st : List Value) (G : AHp) (kc ks : Nat) (Q : Option Value → AHp → Prop) : Prop :=
  ∀ (l : Launch) (D : va_G) (N0 : Nat) (r φ0 : Nat → Nat) (G0 : AHp) (mc ms : Nat) (p : Program) (e : Env) (R : Room) (s : State) (m : MethodId) (args : Array Value) (below : List Frame) (meth : Method) (c : Code) (H : Heap) (locs : List Loc) (cells slots : Nat) (φ : Nat → Nat) (la : Array Slot),
    Env0 d y D N0 r p R s m args meth c → Rel D N0 r s φ G H → Ext φ0 G0 φ G → va_S (fun q => N0 ≤ q) s.heap H locs → (cells + kc ≤ mc ∧ slots + ks ≤ ms ∧ mc ≤ R.cells ∧ ms ≤ R.slots) → LH la y.2.2.1 φ ls → oks G ls → okl G st →
    W p l e R s m args below meth c H locs cells slots (MQ below (AQ D N0 r φ0 G0 Q) args s mc ms (fun q => N0 ≤ q)) (F0 m pc la (st.map (tv φ)))

theorem okv_i {G : AHp} {x : Int32} : okv G (.int x) := fun _ h => by cases h
theorem okv_l {G : AHp} {x : Int64} : okv G (.long x) := fun _ h => by cases h
theorem okv_0 {G : AHp} : okv G .null := fun _ h => by cases h
theorem okv_r {G : AHp} {a : Nat} (h : okn G a) : okv G (.ref a) := fun b e => by cases e; exact h
theorem okl_nil {G : AHp} : okl G [] := fun _ h => by cases h
theorem okl_cons {G : AHp} {v : Value} {st : List Value} (h1 : okv G v) (h2 : okl G st) : okl G (v :: st) := fun u hu => by
  rcases List.mem_cons.mp hu with h | h
  · rw [h]; exact h1
  · exact h2 u h
theorem okl_tail {G : AHp} {v : Value} {st : List Value} (h : okl G (v :: st)) : okl G st := fun u hu => h u (List.mem_cons_of_mem _ hu)
theorem okl_head {G : AHp} {v : Value} {st : List Value} (h : okl G (v :: st)) : okv G v := h v List.mem_cons_self
theorem okn_mono {G G' : AHp} (h : ∀ a, G a ≠ none → G' a ≠ none) {a : Nat} (k : okn G a) : okn G' a := k.elim Or.inl (fun q => Or.inr (h a q))
theorem okv_mono {G G' : AHp} (h : ∀ a, G a ≠ none → G' a ≠ none) {v : Value} (k : okv G v) : okv G' v := fun a e => okn_mono h (k a e)
theorem okl_mono {G G' : AHp} (h : ∀ a, G a ≠ none → G' a ≠ none) {st : List Value} (k : okl G st) : okl G' st := fun v hv => okv_mono h (k v hv)
theorem oks_mono {G G' : AHp} (h : ∀ a, G a ≠ none → G' a ≠ none) {ls : List (Option Value)} (k : oks G ls) : oks G' ls := fun v hv => okv_mono h (k v hv)
theorem okc_mono {G G' : AHp} (h : ∀ a, G a ≠ none → G' a ≠ none) {c : ACell} (k : okc G c) : okc G' c := by
  obtain ⟨ty, n, f | f | f | f | f⟩ | ⟨ci, fs⟩ := c
  · trivial
  · trivial
  · trivial
  · trivial
  · exact fun j b e => okn_mono h (k j b e)
  · exact fun v hv => okv_mono h (k v hv)
theorem tv_cat (φ : Nat → Nat) (v : Value) : (tv φ v).category = v.category := by cases v <;> rfl
theorem tv_eq {G : AHp} {φ φ' : Nat → Nat} (h : ∀ a, okn G a → φ' a = φ a) {v : Value} (k : okv G v) : tv φ' v = tv φ v := by
  cases v <;> first | rfl | (show Value.ref _ = Value.ref _; rw [h _ (k _ rfl)])
theorem tvl_eq {G : AHp} {φ φ' : Nat → Nat} (h : ∀ a, okn G a → φ' a = φ a) {st : List Value} (k : okl G st) : st.map (tv φ') = st.map (tv φ) := List.map_congr_left fun v hv => tv_eq h (k v hv)
theorem Cz_eq {s : State} {G : AHp} {φ φ' : Nat → Nat} (h : ∀ a, okn G a → φ' a = φ a) {c : ACell} {e : va_E} (k : okc G c) (hz : Cz s φ c e) : Cz s φ' c e := by
  obtain ⟨ty, n, f | f | f | f | f⟩ | ⟨ci, fs⟩ := c
  · exact hz
  · exact hz
  · exact hz
  · exact hz
  · obtain ⟨cA, h1, h2⟩ := hz
    refine ⟨cA, ?_, h2⟩
    rw [h1]
    show Sum.inl (cA, n, _) = Sum.inl (cA, n, _)
    have : (fun j => (f j).map φ) = (fun j => (f j).map φ') := by
      funext j
      cases hj : f j with
      | none => rfl
      | some b => show some _ = some _; rw [h b (k j b hj)]
    rw [this]
  · show e = _
    rw [show e = _ from hz]
    rw [tvl_eq h k]
theorem Cz_moved {u U : State} (hvm : u.vm.Alike U.vm) {φ : Nat → Nat} {c : ACell} {e : va_E} (hz : Cz u φ c e) : Cz U φ c e := by
  obtain ⟨ty, x⟩ | ⟨ci, fs⟩ := c
  · obtain ⟨cA, h1, h2, h3⟩ := hz
    exact ⟨cA, h1, arrOfT_moved hvm h2, h3.moved hvm⟩
  · exact hz
theorem Rel.moved {D : va_G} {N0 : Nat} {r φ : Nat → Nat} {u U : State} {G : AHp} {H : Heap} (hvm : u.vm.Alike U.vm) (h : Rel D N0 r u φ G H) : Rel D N0 r U φ G H := by
  obtain ⟨L, E, h1, h2, h3, h4, h5, h6, h7⟩ := h
  refine ⟨L, E, h1, h2, fun a c ha hc => ⟨Cz_moved hvm (h3 a c ha hc).1, (h3 a c ha hc).2⟩, h4, h5, h6, fun a c ha hc => ?_⟩
  obtain ⟨e0, n, f, e1, e2, e3⟩ := h7 a c ha hc
  exact ⟨e0, n, f, e1, e2.moved hvm, e3⟩
theorem Sta.moved {N0 : Nat} {r : Nat → Nat} {u U : State} {H : Heap} (hvm : u.vm.Alike U.vm) (h : Sta N0 r u H) : Sta N0 r U H := by
  obtain ⟨h1, ⟨f, h2⟩, h3, h4⟩ := h
  exact ⟨h1.moved hvm, ⟨f, h2.moved hvm⟩, h3.moved hvm, h4⟩
theorem Sta.kept {N0 : Nat} {r : Nat → Nat} {U : State} {H H1 : Heap} (h : Sta N0 r U H) (hq : ∀ a : Nat, a < H.size → ¬ N0 ≤ a → H1[a]? = H[a]?) : Sta N0 r U H1 := by
  obtain ⟨h1, ⟨f, h2⟩, h3, h4⟩ := h
  exact ⟨h1.kept hq, ⟨f, h2.kept hq⟩, h3, h4⟩
theorem Wl_get {φ : Nat → Nat} {E : Nat → va_E} {L : List Nat} {k a : Nat} (h : L[k]? = some a) : (Wl φ E L)[k]? = some (φ a, E a) := by
  unfold Wl; rw [List.getElem?_map, h]; rfl
/-- a cell of the abstract heap, at its place in the machine's -/
theorem Rel.at {D : va_G} {N0 : Nat} {r φ : Nat → Nat} {s : State} {G : AHp} {H : Heap} (h : Rel D N0 r s φ G H) {a : Nat} {c : ACell} (ha : 16 ≤ a) (hc : G a = some c) :
    ∃ e : va_E, va_P D classes [(φ a, e)] H ∧ Cz s φ c e ∧ okc G c ∧ N0 ≤ φ a := by
  obtain ⟨L, E, h1, h2, h3, h4, h5, h6, h7⟩ := h
  have hm : a ∈ L := (h2 a).mpr ⟨ha, by rw [hc]; simp⟩
  obtain ⟨k, hk⟩ := List.getElem?_of_mem hm
  refine ⟨E a, fun j q hq => ?_, (h3 a c ha hc).1, (h3 a c ha hc).2, h5.2 k _ (Wl_get hk)⟩
  have h0 : j < 1 := (List.getElem?_eq_some_iff.mp hq).1
  rw [show j = 0 by omega] at hq
  cases hq
  exact h4 k _ (Wl_get hk)
theorem Rel.inj {D : va_G} {N0 : Nat} {r φ : Nat → Nat} {s : State} {G : AHp} {H : Heap} (h : Rel D N0 r s φ G H) {a b : Nat} (ha : 16 ≤ a) (ga : G a ≠ none) (hb : 16 ≤ b) (gb : G b ≠ none) (e : φ a = φ b) : a = b := by
  obtain ⟨L, E, h1, h2, h3, h4, h5, h6, h7⟩ := h
  obtain ⟨i, hi⟩ := List.getElem?_of_mem ((h2 a).mpr ⟨ha, ga⟩)
  obtain ⟨j, hj⟩ := List.getElem?_of_mem ((h2 b).mpr ⟨hb, gb⟩)
  have := h5.1 i j _ _ (Wl_get hi) (Wl_get hj) e
  subst this
  rw [hi] at hj
  exact Option.some.inj hj
theorem up_dom {G : AHp} {a : Nat} {c : ACell} (ga : G a ≠ none) (b : Nat) : up G a c b ≠ none ↔ G b ≠ none := by
  by_cases e : b = a
  · subst e; rw [up_s]; simp [ga]
  · rw [up_n e]
theorem Wl_set {φ : Nat → Nat} {E : Nat → va_E} {L : List Nat} (hn : L.Nodup) {k a : Nat} {e' : va_E} (h : L[k]? = some a) : (Wl φ E L).set k (φ a, e') = Wl φ (fun b => if b = a then e' else E b) L := by
  apply List.ext_getElem?
  intro j
  unfold Wl
  rw [List.getElem?_set, List.getElem?_map, List.getElem?_map]
  by_cases e : k = j
  · subst e
    have hlt := (List.getElem?_eq_some_iff.mp h).1
    rw [if_pos rfl, if_pos (by simpa using hlt), h]
    show some (φ a, e') = some (φ a, if a = a then e' else E a)
    rw [if_pos rfl]
  · rw [if_neg e]
    cases hj : L[j]? with
    | none => rfl
    | some b =>
      have hb : ¬ b = a := fun eb => by
        subst eb
        have h1 := (List.getElem?_eq_some_iff.mp h)
        have h2 := (List.getElem?_eq_some_iff.mp hj)
        obtain ⟨l1, g1⟩ := h1
        obtain ⟨l2, g2⟩ := h2
        exact e ((List.getElem_inj hn).mp (g1.trans g2.symm))
      show some (φ b, E b) = some (φ b, if b = a then e' else E b)
      rw [if_neg hb]
/-- a cell, laid bare for a write: what the machine's rows ask, and the way back -/
theorem Rel.gap {D : va_G} {N0 : Nat} {r φ : Nat → Nat} {s : State} {G : AHp} {H : Heap} (h : Rel D N0 r s φ G H) {a : Nat} {c : ACell} (ha : 16 ≤ a) (hc : G a = some c) :
    ∃ (L : List Nat) (E : Nat → va_E) (k : Nat), (Wl φ E L)[k]? = some (φ a, E a) ∧ va_P D classes (Wl φ E L) H ∧ va_D (fun q => N0 ≤ q) (Wl φ E L) ∧ Cz s φ c (E a) ∧ okc G c ∧
      ∀ (c' : ACell) (e' : va_E) (H1 : Heap), Cz s φ c' e' → okc G c' → va_P D classes ((Wl φ E L).set k (φ a, e')) H1 → va_D (fun q => N0 ≤ q) ((Wl φ E L).set k (φ a, e')) → (∀ q : Nat, q < N0 → H1[q]? = H[q]?) → Rel D N0 r s φ (up G a c') H1 := by
  obtain ⟨L, E, h1, h2, h3, h4, h5, h6, h7⟩ := h
  have ga : G a ≠ none := by rw [hc]; simp
  obtain ⟨k, hk⟩ := List.getElem?_of_mem ((h2 a).mpr ⟨ha, ga⟩)
  refine ⟨L, E, k, Wl_get hk, h4, h5, (h3 a c ha hc).1, (h3 a c ha hc).2, fun c' e' H1 hz hok hP hD hX => ?_⟩
  have hdom : ∀ b, up G a c' b ≠ none ↔ G b ≠ none := up_dom ga
  rw [Wl_set h1 hk] at hP hD
  refine ⟨L, _, h1, fun b => by rw [hdom b]; exact h2 b, fun b x hb hx => ?_, hP, hD, h6, fun b x hb hx => ?_⟩
  · show Cz s _ x (if b = a then e' else E b) ∧ _
    by_cases e : b = a
    · subst e
      rw [up_s] at hx
      cases hx
      rw [if_pos rfl]
      exact ⟨hz, okc_mono (fun x hx => (hdom x).mpr hx) hok⟩
    · rw [up_n e] at hx
      rw [if_neg e]
      exact ⟨(h3 b x hb hx).1, okc_mono (fun x hx => (hdom x).mpr hx) (h3 b x hb hx).2⟩
  · rw [up_n (show b ≠ a by omega)] at hx
    obtain ⟨e0, n, f, e1, e2, e3⟩ := h7 b x hb hx
    exact ⟨e0, n, f, e1, e2.kept (hX _ e3), e3⟩
/-- the heap, laid bare for a new cell -/
theorem Rel.gapX {D : va_G} {N0 : Nat} {r φ : Nat → Nat} {s : State} {G : AHp} {H : Heap} (h : Rel D N0 r s φ G H) {a : Nat} (ha : 16 ≤ a) (ga : G a = none) :
    ∃ (L : List Nat) (E : Nat → va_E), (∀ (k : Nat) (x : Nat × va_E), (Wl φ E L)[k]? = some x → ∃ b, 16 ≤ b ∧ G b ≠ none ∧ x.1 = φ b) ∧ va_P D classes (Wl φ E L) H ∧ va_D (fun q => N0 ≤ q) (Wl φ E L) ∧ (∀ q b, okn G b → va_up φ a q b = φ b) ∧
      ∀ (q : Nat) (c' : ACell) (e' : va_E) (H1 : Heap), Cz s (va_up φ a q) c' e' → okc (up G a c') c' → va_P D classes (Wl φ E L ++ [(q, e')]) H1 → va_D (fun q => N0 ≤ q) (Wl φ E L ++ [(q, e')]) → (∀ q : Nat, q < N0 → H1[q]? = H[q]?) → Rel D N0 r s (va_up φ a q) (up G a c') H1 := by
  have hφ : ∀ q b, okn G b → va_up φ a q b = φ b := fun q b hb => by
    have : b ≠ a := fun e => by
      subst e
      rcases hb with hb | hb
      · omega
      · exact hb ga
    exact if_neg this
  obtain ⟨L, E, h1, h2, h3, h4, h5, h6, h7⟩ := h
  refine ⟨L, E, fun k x hx => ?_, h4, h5, hφ, fun q c' e' H1 hz hk hP hD hX => ?_⟩
  · unfold Wl at hx
    rw [List.getElem?_map] at hx
    cases hk : L[k]? with
    | none => rw [hk] at hx; cases hx
    | some b =>
      rw [hk] at hx
      cases hx
      exact ⟨b, ((h2 b).mp (List.mem_of_getElem? hk)).1, ((h2 b).mp (List.mem_of_getElem? hk)).2, rfl⟩
  have haL : a ∉ L := fun z => ((h2 a).mp z).2 ga
  have hone : ∀ b ∈ L, va_up φ a q b = φ b := fun b hb => hφ q b (Or.inr ((h2 b).mp hb).2)
  have hW : Wl (va_up φ a q) (fun b => if b = a then e' else E b) (L ++ [a]) = Wl φ E L ++ [(q, e')] := by
    unfold Wl
    rw [List.map_append]
    congr 1
    · apply List.map_congr_left
      intro b hb
      show (va_up φ a q b, if b = a then e' else E b) = (φ b, E b)
      rw [hone b hb, if_neg (show ¬ b = a from fun e => haL (e ▸ hb))]
    · show [(va_up φ a q a, if a = a then e' else E a)] = [(q, e')]
      rw [if_pos rfl, show va_up φ a q a = q from if_pos rfl]
  have hmono : ∀ b, G b ≠ none → up G a c' b ≠ none := fun b hb => up_ne hb
  refine ⟨L ++ [a], fun b => if b = a then e' else E b, ?_, fun b => ?_, fun b x hb hx => ?_, ?_, ?_, fun b hb => ?_, fun b x hb hx => ?_⟩
  · exact List.nodup_append.mpr ⟨h1, by simp, fun x hx y hy => by
      simp at hy; subst hy; exact fun e => haL (e ▸ hx)⟩
  · rw [List.mem_append, List.mem_singleton]
    by_cases e : b = a
    · subst e; rw [up_s]; simp [ha]
    · rw [up_n e, h2 b]; simp [e]
  · show Cz s _ x (if b = a then e' else E b) ∧ _
    by_cases e : b = a
    · subst e
      rw [up_s] at hx
      cases hx
      rw [if_pos rfl]
      exact ⟨hz, hk⟩
    · rw [up_n e] at hx
      rw [if_neg e]
      exact ⟨Cz_eq (hφ q) (h3 b x hb hx).2 (h3 b x hb hx).1, okc_mono hmono (h3 b x hb hx).2⟩
  · rw [hW]; exact hP
  · rw [hW]; exact hD
  · rw [show va_up φ a q b = φ b from if_neg (by omega)]
    exact h6 b hb
  · rw [up_n (show b ≠ a by omega)] at hx
    obtain ⟨e0, n, f, e1, e2, e3⟩ := h7 b x hb hx
    exact ⟨e0, n, f, e1, e2.kept (hX _ e3), e3⟩
theorem Rel.gapN {D : va_G} {N0 : Nat} {r φ : Nat → Nat} {s : State} {G : AHp} {H : Heap} (h : Rel D N0 r s φ G H) {a : Nat} (ha : 16 ≤ a) (ga : G a = none) :
    ∃ (L : List Nat) (E : Nat → va_E), va_P D classes (Wl φ E L) H ∧ va_D (fun q => N0 ≤ q) (Wl φ E L) ∧ (∀ q b, okn G b → va_up φ a q b = φ b) ∧
      ∀ (q : Nat) (c' : ACell) (e' : va_E) (H1 : Heap), Cz s (va_up φ a q) c' e' → okc (up G a c') c' → va_P D classes (Wl φ E L ++ [(q, e')]) H1 → va_D (fun q => N0 ≤ q) (Wl φ E L ++ [(q, e')]) → (∀ q : Nat, q < N0 → H1[q]? = H[q]?) → Rel D N0 r s (va_up φ a q) (up G a c') H1 := by
  obtain ⟨L, E, -, h1, h2, h3, h4⟩ := h.gapX ha ga
  exact ⟨L, E, h1, h2, h3, h4⟩
theorem Rel.hi {D : va_G} {N0 : Nat} {r φ : Nat → Nat} {s : State} {G : AHp} {H : Heap} (h : Rel D N0 r s φ G H) {a : Nat} {c : ACell} (hc : G a = some c) (hn : ∀ n f, c ≠ aI n f) : 16 ≤ a := by
  obtain ⟨L, E, h1, h2, h3, h4, h5, h6, h7⟩ := h
  rcases Nat.lt_or_ge a 16 with ha | ha
  · obtain ⟨-, n, f, e1, -⟩ := h7 a c ha hc
    exact absurd e1 (hn n f)
  · exact ha
theorem Rel.hi2 {D : va_G} {N0 : Nat} {r φ : Nat → Nat} {s : State} {G : AHp} {H : Heap} (h : Rel D N0 r s φ G H) {a : Nat} {c : ACell} (hc : G a = some c) (hn : a ≠ 2) : 16 ≤ a := by
  obtain ⟨L, E, h1, h2, h3, h4, h5, h6, h7⟩ := h
  rcases Nat.lt_or_ge a 16 with ha | ha
  · exact absurd (h7 a c ha hc).1 hn
  · exact ha
theorem low_kept {N0 : Nat} {H0 H H1 : Heap} {locs locs1 : List Loc} (hN : N0 ≤ H0.size) (h : va_S (fun q => N0 ≤ q) H0 H locs) (h1 : va_S (fun q => N0 ≤ q) H0 H1 locs1) : ∀ q : Nat, q < N0 → H1[q]? = H[q]? := fun q hq => (h1.2.1 q (by omega) (by omega)).trans (h.2.1 q (by omega) (by omega)).symm
theorem Ext.put {φ0 φ : Nat → Nat} {G0 G : AHp} {a : Nat} {c : ACell} (h : Ext φ0 G0 φ G) : Ext φ0 G0 φ (up G a c) := ⟨fun b hb => ⟨up_ne (h.1 b hb).1, (h.1 b hb).2⟩, h.2⟩
theorem Ext.new {φ0 φ φ' : Nat → Nat} {G0 G : AHp} {a : Nat} {c : ACell} (h : Ext φ0 G0 φ G) (hφ : ∀ b, okn G b → φ' b = φ b) : Ext φ0 G0 φ' (up G a c) := ⟨fun b hb => ⟨up_ne (h.1 b hb).1, (hφ b (Or.inr (h.1 b hb).1)).trans (h.1 b hb).2⟩, fun b hb => (hφ b (Or.inl hb)).trans (h.2 b hb)⟩
theorem Ext.rf {φ : Nat → Nat} {G : AHp} : Ext φ G φ G := ⟨fun _ h => ⟨h, rfl⟩, fun _ _ => rfl⟩
theorem Ext.tr {φ0 φ1 φ2 : Nat → Nat} {G0 G1 G2 : AHp} (h : Ext φ0 G0 φ1 G1) (k : Ext φ1 G1 φ2 G2) : Ext φ0 G0 φ2 G2 := ⟨fun a ha => ⟨(k.1 a (h.1 a ha).1).1, (k.1 a (h.1 a ha).1).2.trans (h.1 a ha).2⟩, fun a ha => (k.2 a ha).trans (h.2 a ha)⟩
theorem Ext.ok {φ0 φ : Nat → Nat} {G0 G : AHp} (h : Ext φ0 G0 φ G) : ∀ a, okn G0 a → φ a = φ0 a := fun a ha => ha.elim (h.2 a) (fun q => (h.1 a q).2)
theorem LH_eq {la : Array Slot} {n : Nat} {G : AHp} {φ φ' : Nat → Nat} {ls : List (Option Value)} (h : ∀ a, okn G a → φ' a = φ a) (k : oks G ls) (hl : LH la n φ ls) : LH la n φ' ls := ⟨hl.1, hl.2.1, fun i v hv => by rw [tv_eq h (k v (List.mem_of_getElem? hv))]; exact hl.2.2 i v hv⟩
