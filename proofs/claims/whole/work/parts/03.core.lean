/-! THE ABSTRACT MACHINE: cells have names (numbers), the heap is a function of names; one judgement A hides the machine. Names below 16 are kept for what was there before: 1 the JDK's shared empty array, 2 the script, 3 the mirror of Object[]. -/
def gt : List Cond := lw_tbl.filter goodWord
theorem gt_in {w : Cond} (h : w ∈ lw_tbl) (hg : goodWord w = true) : w ∈ gt := List.mem_filter.mpr ⟨h, hg⟩
theorem gt_good : GoodIn gt gt := fun w h => ⟨h, good_of_word (List.mem_filter.mp h).2⟩
abbrev ACell : Type := (FieldType × vp_A) ⊕ (Nat × List Value)
abbrev AHp : Type := Nat → Option ACell
abbrev aI (n : Nat) (f : Nat → Int32) : ACell := .inl (.int, n, .inl f)
abbrev aL (n : Nat) (f : Nat → Int64) : ACell := .inl (.long, n, .inr (.inl f))
abbrev aR (ty : FieldType) (n : Nat) (f : Nat → Option Nat) : ACell := .inl (ty, n, .inr (.inr (.inr (.inr f))))
abbrev oB (ci : Nat) (fs : List Value) : ACell := .inr (ci, fs)
def tv (φ : Nat → Nat) : Value → Value
  | .ref a => .ref (φ a)
  | v => v
def ta (φ : Nat → Nat) : vp_A → vp_A
  | (n, .inr (.inr (.inr (.inr f)))) => (n, .inr (.inr (.inr (.inr (fun j => (f j).map φ)))))
  | x => x
def Cz (s : State) (φ : Nat → Nat) (c : ACell) (e : va_E) : Prop := match c with
  | .inl (ty, x) => ∃ cA : ClassId, e = .inl (cA, ta φ x) ∧ ArrOfT s cA ty ∧ va_RA s cA ty
  | .inr (ci, fs) => e = .inr (ci, fs.map (tv φ))
def okn (G : AHp) (a : Nat) : Prop := a < 16 ∨ G a ≠ none
def okv (G : AHp) (v : Value) : Prop := ∀ a, v = .ref a → okn G a
def okc (G : AHp) (c : ACell) : Prop := match c with
  | .inl (_, _, .inr (.inr (.inr (.inr f)))) => ∀ j b, f j = some b → okn G b
  | .inl _ => True
  | .inr (_, fs) => ∀ v ∈ fs, okv G v
def up (G : AHp) (a : Nat) (c : ACell) : AHp := fun b => if b = a then some c else G b
theorem up_s {G : AHp} {a : Nat} {c : ACell} : up G a c a = some c := if_pos rfl
theorem up_n {G : AHp} {a b : Nat} {c : ACell} (h : b ≠ a) : up G a c b = G b := if_neg h
theorem up_e {G : AHp} {a b : Nat} {c : ACell} {x : Option ACell} (h : b ≠ a) (e : G b = x) : up G a c b = x := (up_n h).trans e
theorem up_up {G : AHp} {a : Nat} {c c' : ACell} : up (up G a c) a c' = up G a c' := by
  funext b; unfold up; by_cases h : b = a <;> simp [h]
theorem up_ne {G : AHp} {a b : Nat} {c : ACell} (h : G b ≠ none) : up G a c b ≠ none := by
  by_cases e : b = a
  · subst e; rw [up_s]; simp
  · rw [up_n e]; exact h
def Wl (φ : Nat → Nat) (E : Nat → va_E) (L : List Nat) : va_W := L.map (fun a => (φ a, E a))
/-- the heap H holds the abstract heap G, by the map φ of names -/
def Rel (D : va_G) (N0 : Nat) (r : Nat → Nat) (s : State) (φ : Nat → Nat) (G : AHp) (H : Heap) : Prop :=
  ∃ (L : List Nat) (E : Nat → va_E), L.Nodup ∧ (∀ a, a ∈ L ↔ (16 ≤ a ∧ G a ≠ none)) ∧ (∀ a c, 16 ≤ a → G a = some c → Cz s φ c (E a) ∧ okc G c) ∧ va_P D classes (Wl φ E L) H ∧ va_D (fun q => N0 ≤ q) (Wl φ E L) ∧ (∀ a, a < 16 → φ a = r a) ∧
    (∀ c, G 2 = some c → ∃ (n : Nat) (f : Nat → Int32), c = aI n f ∧ va_X (r 2) n f s H ∧ r 2 < N0)
def Ext (φ0 : Nat → Nat) (G0 : AHp) (φ : Nat → Nat) (G : AHp) : Prop := (∀ a, G0 a ≠ none → G a ≠ none ∧ φ a = φ0 a) ∧ ∀ a, a < 16 → φ a = φ0 a
/-- what the machine had before: the shared empty array, the mirror -/
def Sta (N0 : Nat) (r : Nat → Nat) (s : State) (H : Heap) : Prop :=
  va_Z "java/util/ArrayList" "DEFAULTCAPACITY_EMPTY_ELEMENTDATA" "[Ljava/lang/Object;" (.ref (r 1)) (fun q => N0 ≤ q) s H ∧ (∃ f, va_T (.object "java/lang/Object") (r 1) 0 f (fun q => N0 ≤ q) s H) ∧ va_Mi "[Ljava/lang/Object;" (r 3) s ∧ r 1 < N0
def LH (la : Array Slot) (n : Nat) (φ : Nat → Nat) (ls : List (Option Value)) : Prop := la.size = n ∧ lv_wf la ∧ ∀ (i : Nat) (v : Value), ls[i]? = some (some v) → la[i]? = some (.val (tv φ v))
def okl (G : AHp) (st : List Value) : Prop := ∀ v ∈ st, okv G v
def oks (G : AHp) (ls : List (Option Value)) : Prop := ∀ v, some v ∈ ls → okv G v
def Env0 (d : Nat) (y : MI) (D : va_G) (N0 : Nat) (r : Nat → Nat) (p : Program) (R : Room) (s : State) (m : MethodId) (args : Array Value) (meth : Method) (c : Code) : Prop :=
  p.tables.exec = Jvm.exec ∧ c.code = mcode y ∧ meth.sig.returnType = y.2.2.2 ∧ c.maxLocals = y.2.2.1 ∧ s.vm.findClass (mcls y) = some m.cls ∧ (∀ w ∈ gt, w.before args s = true) ∧ meth.locks = false ∧ meth.name = y.1.name ∧ va_K D classes [] s ∧ Sta N0 r s s.heap ∧ d ≤ R.frames ∧ 40 * d ≤ R.locals ∧ N0 ≤ s.heap.size
def AQ (D : va_G) (N0 : Nat) (r φ0 : Nat → Nat) (G0 : AHp) (Q : Option Value → AHp → Prop) : Array Value → State → Outcome → State → Prop := fun _ st o t =>
  ∃ (v : Option Value) (φ : Nat → Nat) (G : AHp), o = .returned (v.map (tv φ)) ∧ Q v G ∧ Ext φ0 G0 φ G ∧ (∀ u, v = some u → okv G u) ∧ Rel D N0 r t φ G t.heap ∧ va_F (fun q => N0 ≤ q) st t
/-- THE JUDGEMENT: at pc of the method y, with the locals ls, the stack st, the heap G, room for d frames, kc cells and ks slots, the method comes to its end, and there Q holds of its answer and of the heap -/
def A (d : Nat) (y : MI) (pc : Nat) (ls : List (Option Value)) (st : List Value) (G : AHp) (kc ks : Nat) (Q : Option Value → AHp → Prop) : Prop :=
  ∀ (l : Launch) (D : va_G) (N0 : Nat) (r φ0 : Nat → Nat) (G0 : AHp) (mc ms : Nat) (p : Program) (e : Env) (R : Room) (s : State) (m : MethodId) (args : Array Value) (below : List Frame) (meth : Method) (c : Code) (H : Heap) (locs : List Loc) (cells slots : Nat) (φ : Nat → Nat) (la : Array Slot),
    Env0 d y D N0 r p R s m args meth c → Rel D N0 r s φ G H → Ext φ0 G0 φ G → va_S (fun q => N0 ≤ q) s.heap H locs → (cells + kc ≤ mc ∧ slots + ks ≤ ms ∧ mc ≤ R.cells ∧ ms ≤ R.slots) → LH la y.2.2.1 φ ls → oks G ls → okl G st →
    W p l e R s m args below meth c H locs cells slots (MQ below (AQ D N0 r φ0 G0 Q) args s mc ms (fun q => N0 ≤ q)) (F0 m pc la (st.map (tv φ)))

theorem okv_i {G : AHp} {x : Int32} : okv G (.int x) := fun _ h => by cases h
theorem okv_l {G : AHp} {x : Int64} : okv G (.long x) := fun _ h => by cases h
theorem okv_0 {G : AHp} : okv G .null := fun _ h => by cases h
theorem okv_r {G : AHp} {a : Nat} (h : okn G a) : okv G (.ref a) := fun b e => by cases e; exact h
theorem okl_nil {G : AHp} : okl G [] := fun _ h => by cases h
theorem okl_cons {G : AHp} {v : Value} {st : List Value} (h1 : okv G v) (h2 : okl G st) : okl G (v :: st) := fun u hu => by
  rcases List.mem_cons.mp hu with h | h
  · rw [h]; exact h1
  · exact h2 u h
theorem okl_tail {G : AHp} {v : Value} {st : List Value} (h : okl G (v :: st)) : okl G st := fun u hu => h u (List.mem_cons_of_mem _ hu)
theorem okl_head {G : AHp} {v : Value} {st : List Value} (h : okl G (v :: st)) : okv G v := h v List.mem_cons_self
theorem okn_mono {G G' : AHp} (h : ∀ a, G a ≠ none → G' a ≠ none) {a : Nat} (k : okn G a) : okn G' a := k.elim Or.inl (fun q => Or.inr (h a q))
theorem okv_mono {G G' : AHp} (h : ∀ a, G a ≠ none → G' a ≠ none) {v : Value} (k : okv G v) : okv G' v := fun a e => okn_mono h (k a e)
theorem okl_mono {G G' : AHp} (h : ∀ a, G a ≠ none → G' a ≠ none) {st : List Value} (k : okl G st) : okl G' st := fun v hv => okv_mono h (k v hv)
theorem oks_mono {G G' : AHp} (h : ∀ a, G a ≠ none → G' a ≠ none) {ls : List (Option Value)} (k : oks G ls) : oks G' ls := fun v hv => okv_mono h (k v hv)
theorem okc_mono {G G' : AHp} (h : ∀ a, G a ≠ none → G' a ≠ none) {c : ACell} (k : okc G c) : okc G' c := by
  obtain ⟨ty, n, f | f | f | f | f⟩ | ⟨ci, fs⟩ := c
  · trivial
  · trivial
  · trivial
  · trivial
  · exact fun j b e => okn_mono h (k j b e)
  · exact fun v hv => okv_mono h (k v hv)
theorem tv_cat (φ : Nat → Nat) (v : Value) : (tv φ v).category = v.category := by cases v <;> rfl
theorem tv_eq {G : AHp} {φ φ' : Nat → Nat} (h : ∀ a, okn G a → φ' a = φ a) {v : Value} (k : okv G v) : tv φ' v = tv φ v := by
  cases v <;> first | rfl | (show Value.ref _ = Value.ref _; rw [h _ (k _ rfl)])
theorem tvl_eq {G : AHp} {φ φ' : Nat → Nat} (h : ∀ a, okn G a → φ' a = φ a) {st : List Value} (k : okl G st) : st.map (tv φ') = st.map (tv φ) := List.map_congr_left fun v hv => tv_eq h (k v hv)
theorem Cz_eq {s : State} {G : AHp} {φ φ' : Nat → Nat} (h : ∀ a, okn G a → φ' a = φ a) {c : ACell} {e : va_E} (k : okc G c) (hz : Cz s φ c e) : Cz s φ' c e := by
  obtain ⟨ty, n, f | f | f | f | f⟩ | ⟨ci, fs⟩ := c
  · exact hz
  · exact hz
  · exact hz
  · exact hz
  · obtain ⟨cA, h1, h2⟩ := hz
    refine ⟨cA, ?_, h2⟩
    rw [h1]
    show Sum.inl (cA, n, _) = Sum.inl (cA, n, _)
    have : (fun j => (f j).map φ) = (fun j => (f j).map φ') := by
      funext j
      cases hj : f j with
      | none => rfl
      | some b => show some _ = some _; rw [h b (k j b hj)]
    rw [this]
  · show e = _
    rw [show e = _ from hz]
    rw [tvl_eq h k]
theorem Cz_moved {u U : State} (hvm : u.vm.Alike U.vm) {φ : Nat → Nat} {c : ACell} {e : va_E} (hz : Cz u φ c e) : Cz U φ c e := by
  obtain ⟨ty, x⟩ | ⟨ci, fs⟩ := c
  · obtain ⟨cA, h1, h2, h3⟩ := hz
    exact ⟨cA, h1, arrOfT_moved hvm h2, h3.moved hvm⟩
  · exact hz
theorem Rel.moved {D : va_G} {N0 : Nat} {r φ : Nat → Nat} {u U : State} {G : AHp} {H : Heap} (hvm : u.vm.Alike U.vm) (h : Rel D N0 r u φ G H) : Rel D N0 r U φ G H := by
  obtain ⟨L, E, h1, h2, h3, h4, h5, h6, h7⟩ := h
  refine ⟨L, E, h1, h2, fun a c ha hc => ⟨Cz_moved hvm (h3 a c ha hc).1, (h3 a c ha hc).2⟩, h4, h5, h6, fun c hc => ?_⟩
  obtain ⟨n, f, e1, e2, e3⟩ := h7 c hc
  exact ⟨n, f, e1, e2.moved hvm, e3⟩
theorem Sta.moved {N0 : Nat} {r : Nat → Nat} {u U : State} {H : Heap} (hvm : u.vm.Alike U.vm) (h : Sta N0 r u H) : Sta N0 r U H := by
  obtain ⟨h1, ⟨f, h2⟩, h3, h4⟩ := h
  exact ⟨h1.moved hvm, ⟨f, h2.moved hvm⟩, h3.moved hvm, h4⟩
theorem Sta.kept {N0 : Nat} {r : Nat → Nat} {U : State} {H H1 : Heap} (h : Sta N0 r U H) (hq : ∀ a : Nat, a < H.size → ¬ N0 ≤ a → H1[a]? = H[a]?) : Sta N0 r U H1 := by
  obtain ⟨h1, ⟨f, h2⟩, h3, h4⟩ := h
  exact ⟨h1.kept hq, ⟨f, h2.kept hq⟩, h3, h4⟩
theorem Wl_get {φ : Nat → Nat} {E : Nat → va_E} {L : List Nat} {k a : Nat} (h : L[k]? = some a) : (Wl φ E L)[k]? = some (φ a, E a) := by
  unfold Wl; rw [List.getElem?_map, h]; rfl
/-- a cell of the abstract heap, at its place in the machine's -/
theorem Rel.at {D : va_G} {N0 : Nat} {r φ : Nat → Nat} {s : State} {G : AHp} {H : Heap} (h : Rel D N0 r s φ G H) {a : Nat} {c : ACell} (ha : 16 ≤ a) (hc : G a = some c) :
    ∃ e : va_E, va_P D classes [(φ a, e)] H ∧ Cz s φ c e ∧ okc G c ∧ N0 ≤ φ a := by
  obtain ⟨L, E, h1, h2, h3, h4, h5, h6, h7⟩ := h
  have hm : a ∈ L := (h2 a).mpr ⟨ha, by rw [hc]; simp⟩
  obtain ⟨k, hk⟩ := List.getElem?_of_mem hm
  refine ⟨E a, fun j q hq => ?_, (h3 a c ha hc).1, (h3 a c ha hc).2, h5.2 k _ (Wl_get hk)⟩
  have h0 : j < 1 := (List.getElem?_eq_some_iff.mp hq).1
  rw [show j = 0 by omega] at hq
  cases hq
  exact h4 k _ (Wl_get hk)
theorem Rel.inj {D : va_G} {N0 : Nat} {r φ : Nat → Nat} {s : State} {G : AHp} {H : Heap} (h : Rel D N0 r s φ G H) {a b : Nat} (ha : 16 ≤ a) (ga : G a ≠ none) (hb : 16 ≤ b) (gb : G b ≠ none) (e : φ a = φ b) : a = b := by
  obtain ⟨L, E, h1, h2, h3, h4, h5, h6, h7⟩ := h
  obtain ⟨i, hi⟩ := List.getElem?_of_mem ((h2 a).mpr ⟨ha, ga⟩)
  obtain ⟨j, hj⟩ := List.getElem?_of_mem ((h2 b).mpr ⟨hb, gb⟩)
  have := h5.1 i j _ _ (Wl_get hi) (Wl_get hj) e
  subst this
  rw [hi] at hj
  exact Option.some.inj hj
theorem up_dom {G : AHp} {a : Nat} {c : ACell} (ga : G a ≠ none) (b : Nat) : up G a c b ≠ none ↔ G b ≠ none := by
  by_cases e : b = a
  · subst e; rw [up_s]; simp [ga]
  · rw [up_n e]
/-- a cell is written: from the machine's heap behind the write -/
theorem Rel.put {D : va_G} {N0 : Nat} {r φ : Nat → Nat} {s : State} {G : AHp} {H H1 : Heap} (h : Rel D N0 r s φ G H) {a : Nat} {c' : ACell} {e' : va_E} (ha : 16 ≤ a) (ga : G a ≠ none) (hz : Cz s φ c' e') (hk : okc G c')
    (hat : va_at D classes (φ a, e') H1) (ho : ∀ q : Nat, q ≠ φ a → H1[q]? = H[q]?) : Rel D N0 r s φ (up G a c') H1 := by
  have hinj := fun {b : Nat} => h.inj (a := b) (b := a)
  obtain ⟨L, E, h1, h2, h3, h4, h5, h6, h7⟩ := h
  have hdom : ∀ b, up G a c' b ≠ none ↔ G b ≠ none := up_dom ga
  refine ⟨L, fun b => if b = a then e' else E b, h1, fun b => by rw [hdom b]; exact h2 b, fun b c hb hc => ?_, ?_, ?_, h6, fun c hc => ?_⟩
  · show Cz s _ c (if b = a then e' else E b) ∧ _
    by_cases e : b = a
    · subst e
      rw [up_s] at hc
      cases hc
      rw [if_pos rfl]
      exact ⟨hz, okc_mono (fun x hx => (hdom x).mpr hx) hk⟩
    · rw [up_n e] at hc
      rw [if_neg e]
      exact ⟨(h3 b c hb hc).1, okc_mono (fun x hx => (hdom x).mpr hx) (h3 b c hb hc).2⟩
  · intro k q hq
    unfold Wl at hq
    rw [List.getElem?_map] at hq
    cases hk : L[k]? with
    | none => rw [hk] at hq; cases hq
    | some b =>
      rw [hk] at hq
      cases hq
      show va_at D classes (φ b, if b = a then e' else E b) H1
      by_cases e : b = a
      · rw [if_pos e, e]
        exact hat
      · rw [if_neg e]
        have hb := (h2 b).mp (List.mem_of_getElem? hk)
        exact (h4 k _ (Wl_get hk)).kept (ho _ (fun z => e (hinj hb.1 hb.2 ha ga z)))
  · refine ⟨fun i j x y hi hj hxy => ?_, fun k q hq => ?_⟩
    · unfold Wl at hi hj
      rw [List.getElem?_map] at hi hj
      cases hi' : L[i]? with
      | none => rw [hi'] at hi; cases hi
      | some b =>
        cases hj' : L[j]? with
        | none => rw [hj'] at hj; cases hj
        | some b' =>
          rw [hi'] at hi; rw [hj'] at hj
          cases hi; cases hj
          exact h5.1 i j _ _ (Wl_get hi') (Wl_get hj') hxy
    · unfold Wl at hq
      rw [List.getElem?_map] at hq
      cases hk : L[k]? with
      | none => rw [hk] at hq; cases hq
      | some b =>
        rw [hk] at hq
        cases hq
        exact h5.2 k (φ b, E b) (Wl_get hk)
  · rw [up_n (show (2 : Nat) ≠ a by omega)] at hc
    obtain ⟨n, f, e1, e2, e3⟩ := h7 c hc
    refine ⟨n, f, e1, e2.kept (ho _ (fun z => ?_)), e3⟩
    obtain ⟨k, hk⟩ := List.getElem?_of_mem ((h2 a).mpr ⟨ha, ga⟩)
    have : N0 ≤ φ a := h5.2 k _ (Wl_get hk)
    omega
/-- a cell is made: it gets any name that is free -/
theorem Rel.new {D : va_G} {N0 : Nat} {r φ : Nat → Nat} {s : State} {G : AHp} {H H1 : Heap} (h : Rel D N0 r s φ G H) (hN : N0 ≤ H.size) {a q : Nat} {c' : ACell} {e' : va_E} (ha : 16 ≤ a) (ga : G a = none) (hq : H.size ≤ q) (hz : Cz s (va_up φ a q) c' e') (hk : okc (up G a c') c')
    (hat : va_at D classes (q, e') H1) (ho : ∀ x : Nat, x < H.size → H1[x]? = H[x]?) : Rel D N0 r s (va_up φ a q) (up G a c') H1 ∧ ∀ b, okn G b → va_up φ a q b = φ b := by
  have hφ : ∀ b, okn G b → va_up φ a q b = φ b := fun b hb => by
    have : b ≠ a := fun e => by
      subst e
      rcases hb with hb | hb
      · omega
      · exact hb ga
    exact if_neg this
  refine ⟨?_, hφ⟩
  obtain ⟨L, E, h1, h2, h3, h4, h5, h6, h7⟩ := h
  have haL : a ∉ L := fun z => ((h2 a).mp z).2 ga
  have hlt : ∀ k b, L[k]? = some b → φ b < H.size := fun k b hb => (h4 k _ (Wl_get hb)).lt
  have hone : ∀ b ∈ L, va_up φ a q b = φ b := fun b hb => hφ b (Or.inr ((h2 b).mp hb).2)
  have hW : Wl (va_up φ a q) (fun b => if b = a then e' else E b) (L ++ [a]) = Wl φ E L ++ [(q, e')] := by
    unfold Wl
    rw [List.map_append]
    congr 1
    · apply List.map_congr_left
      intro b hb
      show (va_up φ a q b, if b = a then e' else E b) = (φ b, E b)
      rw [hone b hb, if_neg (show ¬ b = a from fun e => haL (e ▸ hb))]
    · show [(va_up φ a q a, if a = a then e' else E a)] = [(q, e')]
      rw [if_pos rfl, show va_up φ a q a = q from if_pos rfl]
  have hmono : ∀ b, G b ≠ none → up G a c' b ≠ none := fun b hb => up_ne hb
  refine ⟨L ++ [a], fun b => if b = a then e' else E b, ?_, fun b => ?_, fun b c hb hc => ?_, ?_, ?_, fun b hb => ?_, fun c hc => ?_⟩
  · exact List.nodup_append.mpr ⟨h1, by simp, fun x hx y hy => by
      simp at hy; subst hy; exact fun e => haL (e ▸ hx)⟩
  · rw [List.mem_append, List.mem_singleton]
    by_cases e : b = a
    · subst e; rw [up_s]; simp [ha]
    · rw [up_n e, h2 b]; simp [e]
  · show Cz s _ c (if b = a then e' else E b) ∧ _
    by_cases e : b = a
    · subst e
      rw [up_s] at hc
      cases hc
      rw [if_pos rfl]
      exact ⟨hz, hk⟩
    · rw [up_n e] at hc
      rw [if_neg e]
      exact ⟨Cz_eq hφ (h3 b c hb hc).2 (h3 b c hb hc).1, okc_mono hmono (h3 b c hb hc).2⟩
  · rw [hW]
    refine va_P.app (fun k x hx => (h4 k x hx).kept (ho _ (h4 k x hx).lt)) (fun k x hx => ?_)
    have h0 : k < 1 := (List.getElem?_eq_some_iff.mp hx).1
    rw [show k = 0 by omega] at hx
    cases hx
    exact hat
  · rw [hW]
    have hq' : ∀ (j : Nat) (y : Nat × va_E), [(q, e')][j]? = some y → y.1 = q := fun j y hy => by
      have h0 : j < 1 := (List.getElem?_eq_some_iff.mp hy).1
      rw [show j = 0 by omega] at hy
      cases hy; rfl
    refine va_D.app h5 ⟨fun i j x y hi hj _ => ?_, fun k x hx => ?_⟩ (fun i j x y hx hy hxy => ?_)
    · have h0 : i < 1 := (List.getElem?_eq_some_iff.mp hi).1
      have h0' : j < 1 := (List.getElem?_eq_some_iff.mp hj).1
      omega
    · rw [hq' k x hx]; omega
    · have := hq' j y hy
      have := (h4 i x hx).lt
      omega
  · rw [show va_up φ a q b = φ b from if_neg (by omega)]
    exact h6 b hb
  · rw [up_n (show (2 : Nat) ≠ a by omega)] at hc
    obtain ⟨n, f, e1, e2, e3⟩ := h7 c hc
    exact ⟨n, f, e1, e2.kept (ho _ (by omega)), e3⟩
theorem Ext.up {φ0 φ : Nat → Nat} {G0 G : AHp} {a : Nat} {c : ACell} (h : Ext φ0 G0 φ G) : Ext φ0 G0 φ (up G a c) := ⟨fun b hb => ⟨up_ne (h.1 b hb).1, (h.1 b hb).2⟩, h.2⟩
theorem Ext.new {φ0 φ φ' : Nat → Nat} {G0 G : AHp} {a : Nat} {c : ACell} (h : Ext φ0 G0 φ G) (hφ : ∀ b, okn G b → φ' b = φ b) : Ext φ0 G0 φ' (_root_.Jvm.Pilot.CAfterFireLaw_law_r3551_c660c1.up G a c) := ⟨fun b hb => ⟨up_ne (h.1 b hb).1, (hφ b (Or.inr (h.1 b hb).1)).trans (h.1 b hb).2⟩, fun b hb => (hφ b (Or.inl hb)).trans (h.2 b hb)⟩
theorem Ext.rf {φ : Nat → Nat} {G : AHp} : Ext φ G φ G := ⟨fun _ h => ⟨h, rfl⟩, fun _ _ => rfl⟩
theorem Ext.tr {φ0 φ1 φ2 : Nat → Nat} {G0 G1 G2 : AHp} (h : Ext φ0 G0 φ1 G1) (k : Ext φ1 G1 φ2 G2) : Ext φ0 G0 φ2 G2 := ⟨fun a ha => ⟨(k.1 a (h.1 a ha).1).1, (k.1 a (h.1 a ha).1).2.trans (h.1 a ha).2⟩, fun a ha => (k.2 a ha).trans (h.2 a ha)⟩
theorem Ext.ok {φ0 φ : Nat → Nat} {G0 G : AHp} (h : Ext φ0 G0 φ G) : ∀ a, okn G0 a → φ a = φ0 a := fun a ha => ha.elim (h.2 a) (fun q => (h.1 a q).2)
theorem LH_eq {la : Array Slot} {n : Nat} {G : AHp} {φ φ' : Nat → Nat} {ls : List (Option Value)} (h : ∀ a, okn G a → φ' a = φ a) (k : oks G ls) (hl : LH la n φ ls) : LH la n φ' ls := ⟨hl.1, hl.2.1, fun i v hv => by rw [tv_eq h (k v (List.mem_of_getElem? hv))]; exact hl.2.2 i v hv⟩
