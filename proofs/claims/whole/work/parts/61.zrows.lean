/-! new int[n][k]: the machine's own step, out of the machine's text -/
/-- the outer array when i rows hang in it -/
def mz_out (cA : ClassId) (n h i : Nat) : Cell := arrV cA n (fun j => va_rf (if j < i then some (h + 1 + j) else none))
def mz_row (cy : ClassId) (k : Nat) : Cell := { cls := cy, slots := Array.replicate k (.int 0), vm := .none }
/-- the state when i rows are made -/
def mz_st (T : State) (cA cy : ClassId) (n k : Nat) : Nat → State
  | 0 => T.pushCell (mz_out cA n T.heap.size 0)
  | i + 1 => ((mz_st T cA cy n k i).pushCell (mz_row cy k)).setCell T.heap.size (mz_out cA n T.heap.size (i + 1))
theorem mz_out_new (cA : ClassId) (n h : Nat) : ({ cls := cA, slots := Array.replicate n .null, vm := .none } : Cell) = mz_out cA n h 0 := by
  rw [arrV_new]
  exact congrArg (arrV cA n) (funext fun j => by rw [if_neg (by omega)]; rfl)
theorem mz_out_put (cA : ClassId) (n h i : Nat) : (mz_out cA n h i).setSlot i (.ref (h + 1 + i)) = mz_out cA n h (i + 1) := by
  unfold mz_out
  rw [arrV_store]
  refine congrArg (arrV cA n) (funext fun j => ?_)
  unfold updV
  by_cases e : j = i
  · rw [if_pos e, if_pos (by omega), e]; rfl
  · rw [if_neg e]
    show va_rf (if j < i then some (h + 1 + j) else none) = _
    by_cases h : j < i
    · rw [if_pos h, if_pos (by omega)]
    · rw [if_neg h, if_neg (by omega)]
theorem mz_row_size (cy : ClassId) (k : Nat) : (mz_row cy k).slots.size = k := by simp [mz_row]
section MZ
variable {T : State} {cA cy : ClassId} {n k : Nat}
theorem mz_st_vm : ∀ i, (mz_st T cA cy n k i).vm = T.vm
  | 0 => rfl
  | i + 1 => mz_st_vm i
theorem mz_st_top {f : JFrame} : ∀ i, mz_st (T.setTop f) cA cy n k i = (mz_st T cA cy n k i).setTop f
  | 0 => rfl
  | i + 1 => by
    show ((mz_st (T.setTop f) cA cy n k i).pushCell (mz_row cy k)).setCell T.heap.size _ = _
    rw [mz_st_top i]
    rfl
theorem mz_st_size : ∀ i, (mz_st T cA cy n k i).heap.size = T.heap.size + 1 + i
  | 0 => Array.size_push ..
  | i + 1 => by
    show ((((mz_st T cA cy n k i).heap.push (mz_row cy k)).setIfInBounds T.heap.size _).size) = _
    rw [Array.size_setIfInBounds, Array.size_push, mz_st_size i]
    rfl
theorem mz_st_used : ∀ i, (mz_st T cA cy n k i).slotsUsed = T.slotsUsed + n + i * k
  | 0 => by
    show T.slotsUsed + (mz_out cA n T.heap.size 0).slots.size = _
    unfold mz_out
    rw [arrV_size, Nat.zero_mul]
    rfl
  | i + 1 => by
    show (mz_st T cA cy n k i).slotsUsed + (mz_row cy k).slots.size = _
    rw [mz_st_used i, mz_row_size, Nat.succ_mul]
    omega
theorem mz_st_old : ∀ i (x : Nat), x < T.heap.size → (mz_st T cA cy n k i).heap[x]? = T.heap[x]?
  | 0, x, hx => by
    show (T.heap.push _)[x]? = _
    rw [Array.getElem?_push, if_neg (Nat.ne_of_lt hx)]
  | i + 1, x, hx => by
    show (((mz_st T cA cy n k i).heap.push (mz_row cy k)).setIfInBounds T.heap.size _)[x]? = _
    rw [Array.getElem?_setIfInBounds, if_neg (by omega), Array.getElem?_push, if_neg (by rw [mz_st_size i]; omega)]
    exact mz_st_old i x hx
theorem mz_st_out : ∀ i, (mz_st T cA cy n k i).heap[T.heap.size]? = some (mz_out cA n T.heap.size i)
  | 0 => by
    show (T.heap.push _)[T.heap.size]? = _
    rw [Array.getElem?_push_size]
  | i + 1 => by
    show (((mz_st T cA cy n k i).heap.push (mz_row cy k)).setIfInBounds T.heap.size _)[T.heap.size]? = _
    rw [Array.getElem?_setIfInBounds, if_pos rfl, if_pos (by rw [Array.size_push, mz_st_size i]; omega)]
theorem mz_st_row : ∀ i j, j < i → (mz_st T cA cy n k i).heap[T.heap.size + 1 + j]? = some (mz_row cy k)
  | 0, j, hj => absurd hj (by omega)
  | i + 1, j, hj => by
    show (((mz_st T cA cy n k i).heap.push (mz_row cy k)).setIfInBounds T.heap.size _)[T.heap.size + 1 + j]? = _
    rw [Array.getElem?_setIfInBounds, if_neg (by omega), Array.getElem?_push, mz_st_size i]
    by_cases e : j = i
    · rw [if_pos (by omega)]
    · rw [if_neg (by omega)]
      exact mz_st_row i j (by omega)
theorem mz_stand {p : Program} {l : Launch} {e : Env} {R : Room} {s : State} {m : MethodId} {args : Array Value} {below : List Frame} {meth : Method} {c : Code} {locs : List Loc} {cells slots : Nat} (X : Stand p l e R s m args below meth c T locs cells slots) : ∀ i, Stand p l e R s m args below meth c (mz_st T cA cy n k i) locs (cells + 1 + i) (slots + n + i * k)
  | 0 => by
    have h := X.pushed (mz_out cA n T.heap.size 0)
    rw [show (mz_out cA n T.heap.size 0).slots.size = n from arrV_size _ _ _] at h
    rw [Nat.zero_mul]
    exact h
  | i + 1 => by
    have h := (mz_stand X i).pushed (mz_row cy k)
    have h := h.stored (a := T.heap.size) (cell := mz_out cA n T.heap.size i) (by
      show ((mz_st T cA cy n k i).heap.push (mz_row cy k))[T.heap.size]? = _
      rw [Array.getElem?_push, if_neg (by rw [mz_st_size i]; omega)]
      exact mz_st_out i) i (.ref (T.heap.size + 1 + i))
    have h := h.dropFresh (fun x hx => by
      rw [List.mem_singleton] at hx
      rw [hx]
      exact X.heapGrown)
    rw [mz_out_put, mz_row_size] at h
    rw [Nat.succ_mul, ← Nat.add_assoc (slots + n)]
    exact h
/-- one row -/
theorem mz_wp_row {E : CtlPost} {e : Env} {d : Bool} {acts : List Action} {ky : Class} {cz : ClassId} {j : Int32} {Q : Addr → Pre} (hky : T.vm.classes[cy]? = some ky) (hkind : ky.kind = .array cz .int) (hj : ¬ j < 0) (hjk : j.toNatClampNeg = k) (hlim : ¬ k > e.platform.arrayLengthLimit) (hheap : ¬ k * componentBytes .int > e.platform.maxHeapBytes) (hcells : T.heap.size < e.platform.maxCells) (hslots : T.slotsUsed + k ≤ e.platform.maxSlots)
    (hq : ∀ acts', Q T.heap.size d acts' (T.pushCell (mz_row cy k))) : wp (Op.multianewarray.make cy [j]) Q E e d acts T := by
  rw [Op.multianewarray.make]
  simp only [wp_bind', W.ite, hj, if_false, wp_pure', W.theClass, hky, Option.some.injEq, exists_eq_left', hkind]
  rw [hjk]
  exact W.newArray_of hky hkind hlim hheap hcells hslots rfl hq
/-- the rows, one behind the other -/
theorem mz_wp_rows {E : CtlPost} {e : Env} {ky kA : Class} {cz : ClassId} {j : Int32} {Q : PUnit → Pre} (hkA : T.vm.classes[cA]? = some kA) (hkindA : kA.kind = .array cy (.array .int)) (hky : T.vm.classes[cy]? = some ky) (hkind : ky.kind = .array cz .int) (hj : ¬ j < 0) (hjk : j.toNatClampNeg = k) (hlim : ¬ k > e.platform.arrayLengthLimit) (hheap : ¬ k * componentBytes .int > e.platform.maxHeapBytes) (hcells : T.heap.size + (1 + n) ≤ e.platform.maxCells) (hslots : T.slotsUsed + (n + n * k) ≤ e.platform.maxSlots)
    (hq : ∀ d' acts', Q PUnit.unit d' acts' (mz_st T cA cy n k n)) : ∀ (r q : Nat) (d : Bool) (acts : List Action), q + r = n →
      wp (forIn (List.range' q r) PUnit.unit fun i (_ : PUnit) => (do
        let a ← Op.multianewarray.make cy [j]
        writeLoc T.heap.size i (.ref a)
        Pure.pure (ForInStep.yield PUnit.unit) : Sem (ForInStep PUnit))) Q E e d acts (mz_st T cA cy n k q)
  | 0, q, d, acts, h => by
    rw [show q = n by omega]
    simp only [List.range'_zero, List.forIn_nil, wp_pure']
    exact hq _ _
  | r + 1, q, d, acts, h => by
    have hmul : (q + 1) * k ≤ n * k := Nat.mul_le_mul_right k (by omega)
    rw [Nat.succ_mul] at hmul
    simp only [List.range'_succ, List.forIn_cons, wp_bind']
    refine mz_wp_row (T := mz_st T cA cy n k q) (k := k) (by rw [mz_st_vm]; exact hky) hkind hj hjk hlim hheap (by rw [mz_st_size]; omega) (by rw [mz_st_used]; omega) (fun acts1 => ?_)
    simp only [wp_bind', W.writeLoc, wp_pure']
    refine ⟨mz_out cA n T.heap.size q, ?_, ?_, ?_, ?_, ?_⟩
    · show ((mz_st T cA cy n k q).heap.push (mz_row cy k))[T.heap.size]? = _
      rw [Array.getElem?_push, if_neg (by rw [mz_st_size]; omega)]
      exact mz_st_out q
    · intro z; cases z
    · rw [show (mz_out cA n T.heap.size q).slots.size = n from arrV_size _ _ _]; omega
    · simp [mz_out, arrV, State.fitsSlot, State.slotType?, mz_st_vm, hkA, hkindA, fits]
    · rw [mz_st_size, mz_out_put]
      exact mz_wp_rows hkA hkindA hky hkind hj hjk hlim hheap hcells hslots hq r (q + 1) _ _ (by omega)
/-- the outer array with its rows -/
theorem mz_wp {E : CtlPost} {e : Env} {d : Bool} {acts : List Action} {kA ky : Class} {cz : ClassId} {i j : Int32} {Q : Addr → Pre} (hkA : T.vm.classes[cA]? = some kA) (hkindA : kA.kind = .array cy (.array .int)) (hky : T.vm.classes[cy]? = some ky) (hkind : ky.kind = .array cz .int) (hi : ¬ i < 0) (hin : i.toNatClampNeg = n) (hj : ¬ j < 0) (hjk : j.toNatClampNeg = k) (hlimA : ¬ n > e.platform.arrayLengthLimit) (hheapA : ¬ n * componentBytes (.array .int) > e.platform.maxHeapBytes) (hlim : ¬ k > e.platform.arrayLengthLimit) (hheap : ¬ k * componentBytes .int > e.platform.maxHeapBytes) (hcells : T.heap.size + (1 + n) ≤ e.platform.maxCells) (hslots : T.slotsUsed + (n + n * k) ≤ e.platform.maxSlots)
    (hq : ∀ d' acts', Q T.heap.size d' acts' (mz_st T cA cy n k n)) : wp (Op.multianewarray.make cA [i, j]) Q E e d acts T := by
  rw [Op.multianewarray.make]
  simp only [wp_bind', W.ite, hi, if_false, wp_pure', W.theClass, hkA, Option.some.injEq, exists_eq_left', hkindA]
  rw [hin]
  refine W.newArray_of hkA hkindA hlimA hheapA (by omega) (by omega) rfl (fun acts1 => ?_)
  rw [show ({ cls := cA, slots := Array.replicate n .null } : Cell) = mz_out cA n T.heap.size 0 from mz_out_new cA n T.heap.size]
  have hl : ∀ (d : Bool) (acts : List Action), wp (do
      forIn [:n] PUnit.unit fun i (_ : PUnit) => (do
        let a ← Op.multianewarray.make cy [j]
        writeLoc T.heap.size i (.ref a)
        Pure.pure (ForInStep.yield PUnit.unit) : Sem (ForInStep PUnit))
      Pure.pure T.heap.size) Q E e d acts (mz_st T cA cy n k 0) := fun d acts => by
    rw [Std.Legacy.Range.forIn_eq_forIn_range', show ([:n] : Std.Legacy.Range).size = n by simp [Std.Legacy.Range.size]]
    simp only [wp_bind']
    refine mz_wp_rows hkA hkindA hky hkind hj hjk hlim hheap hcells hslots (fun d' acts' => ?_) n 0 d acts (by omega)
    simp only [wp_pure']
    exact hq _ _
  have hf : List.find? (fun x => decide (x < 0)) [j] = none := by simp [hj]
  by_cases hi0 : (i == 0) = true
  · rw [if_pos hi0, hf]
    exact hl d acts1
  · rw [if_neg hi0]
    exact hl d acts1
theorem mz_st_tj : ∀ i, (mz_st T cA cy n k i).topJava? = T.topJava?
  | 0 => rfl
  | i + 1 => mz_st_tj i
/-- the whole instruction -/
theorem mz_sem {E : CtlPost} {e : Env} {d : Bool} {acts : List Action} {kA ky : Class} {cz : ClassId} {i j : Int32} {index : Nat} {g : JFrame} {vm₁ : Vm} {rest : List Value} {Q : Unit → Pre} (hs : T.topJava?.isSome) (hg : (Jvm.resolveClass g.method.cls index).Gives e.toSetting T.vm (.ok cA) vm₁) (hsz : vm₁.classes.size ≤ T.vm.classes.size) (hstack : g.stack = .int j :: .int i :: rest)
    (hkA : vm₁.classes[cA]? = some kA) (hkindA : kA.kind = .array cy (.array .int)) (hky : vm₁.classes[cy]? = some ky) (hkind : ky.kind = .array cz .int) (hi : ¬ i < 0) (hin : i.toNatClampNeg = n) (hj : ¬ j < 0) (hjk : j.toNatClampNeg = k) (hlimA : ¬ n > e.platform.arrayLengthLimit) (hheapA : ¬ n * componentBytes (.array .int) > e.platform.maxHeapBytes) (hlim : ¬ k > e.platform.arrayLengthLimit) (hheap : ¬ k * componentBytes .int > e.platform.maxHeapBytes) (hcells : T.heap.size + (1 + n) ≤ e.platform.maxCells) (hslots : T.slotsUsed + (n + n * k) ≤ e.platform.maxSlots)
    (hq : ∀ d' acts', Q () d' acts' ((mz_st (T.setVm vm₁) cA cy n k n).setTop { g with stack := .ref T.heap.size :: rest })) : wp (Op.multianewarray.sem index 2) Q E e d acts (T.setTop g) := by
  have hs1 : (T.setVm vm₁).topJava?.isSome := hs
  unfold Op.multianewarray.sem
  simp only [wp_bind']
  rw [W.resolveClassAt_links (t := T.setTop g) (State.method?_setTop g hs) hg hsz, State.setVm_setTop]
  simp only [wp_bind']
  refine (Op.popN_top (args := [.int i, .int j]) (rest := rest) hs1 hstack).mpr ?_
  simp only [List.mapM_cons, List.mapM_nil, wp_bind', wp_pure']
  refine mz_wp (T := (T.setVm vm₁).setTop { g with stack := rest }) hkA hkindA hky hkind hi hin hj hjk hlimA hheapA hlim hheap hcells hslots (fun d' acts' => ?_)
  rw [mz_st_top]
  simp only [wp_bind', W.mark, W.pushRef]
  refine ⟨_, State.topJava?_setTop' _ (by rw [mz_st_tj]; exact hs1), ?_⟩
  rw [State.setTop_setTop]
  exact hq _ _
/-- the step: the class's entry may be new to the tables; the cells are made behind the heap -/
theorem mz_step {p : Program} {l : Launch} {e : Env} {R : Room} {s : State} {m : MethodId} {args : Array Value} {below : List Frame} {meth : Method} {c : Code} {locs : List Loc} {cells slots : Nat} (X : Stand p l e R s m args below meth c T locs cells slots) (hexec : p.tables.exec = Jvm.exec) {own : String} {index : Nat} (hown : s.vm.findClass own = some m.cls) (hclink : (Cond.classLink own index ("[" ++ (FieldType.array .int).toString)).before args s = true) (hover : (Cond.arrayOver (.array .int)).before args s = true) (harr : (Cond.arrayClass .int).before args s = true)
    {g : JFrame} (hg : g.method = m) (hdg : decode c.code g.pc = .ok (.multianewarray index 2, 4)) {i j : Int32} {rest : List Value} (hstack : g.stack = .int j :: .int i :: rest) (hi : ¬ i < 0) (hin : i.toNatClampNeg = n) (hj : ¬ j < 0) (hjk : j.toNatClampNeg = k) (hn : n ≤ 100000) (hk : k ≤ 100000) (hcells : cells + (1 + n) ≤ R.cells) (hslots : slots + (n + n * k) ≤ R.slots) :
    ∃ (vm₁ : Vm) (cA cy : ClassId), s.vm.findClass ("[" ++ (FieldType.array .int).toString) = some cA ∧ s.vm.findClass ("[" ++ FieldType.int.toString) = some cy ∧ ArrOfT s cA (.array .int) ∧ ArrOfT s cy .int ∧ Stand p l e R s m args below meth c (mz_st (T.setVm vm₁) cA cy n k n) locs (cells + 1 + n) (slots + n + n * k) ∧
      ∀ target, Steps p.tables e below ((mz_st (T.setVm vm₁) cA cy n k n).setTop { g with pc := g.pc + 4, stack := .ref T.heap.size :: rest }) target → Steps p.tables e below (T.setTop g) target := by
  subst hg
  have hpl : e.platform.magicAccessors = ({} : Platform).magicAccessors := by rw [X.admits.platform]
  obtain ⟨cy, cA, kA, hcy, -, hkA, hkindA, hnameA⟩ := arrayOverA_spec hover
  obtain ⟨cy', ky, cz, hcy', hky, hkindy⟩ := Cond.arrayClass_spec harr
  obtain rfl : cy = cy' := Option.some.inj (hcy.symm.trans hcy')
  obtain ⟨cc, hfcc, hcl⟩ := Cond.classLink_spec hown hclink e.platform hpl
  obtain rfl : cA = cc := Option.some.inj (hnameA.symm.trans hfcc)
  obtain ⟨hg₁, hwarm₁, hready₁⟩ := State.classEntry (e := e) X.warmed hcl
  have hsz : (T.vm.noted g.method.cls index (.cls cA)).classes.size ≤ T.vm.classes.size := by no_record
  generalize T.vm.noted g.method.cls index (.cls cA) = vm₁ at hg₁ hwarm₁ hready₁ hsz
  have hal : s.vm.Alike vm₁ := hwarm₁.alike
  obtain ⟨kA₁, hkA₁, heA⟩ := hal.2.2 _ _ hkA
  obtain ⟨ky₁, hky₁, hey⟩ := hal.2.2 _ _ hky
  have hkindA₁ : kA₁.kind = .array cy (.array .int) := by rw [heA]; exact hkindA
  have hkindy₁ : ky₁.kind = .array cz .int := by rw [hey]; exact hkindy
  obtain ⟨hr1, hr2⟩ := X.roomAbove hcells hslots
  have hb1 : (FieldType.array .int |> componentBytes) = 4 := rfl
  have hb2 : componentBytes .int = 4 := rfl
  refine ⟨vm₁, cA, cy, hnameA, hcy', fun N z => ⟨(fun q hq => by cases hq), kA, hkA, cy, hkindA⟩, fun N z => ⟨(fun q hq => by cases hq), ky, hky, cz, hkindy⟩, mz_stand (X.noted hwarm₁) n, fun target hrest => ?_⟩
  refine Steps.instr (c := _) (by simpa using X.here) ?_
  simp [jvm, wpRun, exec, X.here.top, hexec, hdg]
  have hlim : e.platform.arrayLengthLimit = _ := Launch.admits_arrayLengthLimit X.admits
  have hmax : e.platform.maxHeapBytes = _ := Launch.admits_maxHeapBytes X.admits
  refine mz_sem X.here.top hg₁ hsz hstack hkA₁ hkindA₁ hky₁ hkindy₁ hi hin hj hjk (by rw [hlim]; omega) (by rw [hmax, hb1]; omega) (by rw [hlim]; omega) (by rw [hmax, hb2]; omega) hr1 hr2 (fun d' acts' acts2 => ?_)
  rw [afterInstr_ok]
  exact hrest
end MZ
/-- a cell that lies in the machine's heap unnamed gets a name -/
theorem Rel.add {D : va_G} {N0 : Nat} {r φ : Nat → Nat} {s : State} {G : AHp} {H : Heap} (h : Rel D N0 r s φ G H) {a q : Nat} {c' : ACell} {e' : va_E} (ha : 16 ≤ a) (ga : G a = none) (hq : ∀ b, 16 ≤ b → G b ≠ none → φ b ≠ q) (hN : N0 ≤ q) (hz : Cz s (va_up φ a q) c' e') (hk : okc (up G a c') c') (hat : va_at D classes (q, e') H) : Rel D N0 r s (va_up φ a q) (up G a c') H ∧ ∀ b, okn G b → va_up φ a q b = φ b := by
  obtain ⟨L, E, hL, hP, hD, hφ, back⟩ := h.gapX ha ga
  have one : ∀ (j : Nat) (x : Nat × va_E), [(q, e')][j]? = some x → j = 0 ∧ x = (q, e') := fun j x hx => by
    have h0 : j < 1 := (List.getElem?_eq_some_iff.mp hx).1
    have hj : j = 0 := by omega
    subst hj
    cases hx
    exact ⟨rfl, rfl⟩
  refine ⟨back q c' e' H hz hk (hP.app (fun k x hx => ?_)) (hD.app ⟨fun i j x y hi hj _ => ?_, fun k x hx => ?_⟩ (fun i j x y hx hy hxy => ?_)) (fun _ _ => rfl), hφ q⟩
  · rw [(one k x hx).2]; exact hat
  · rw [(one i x hi).1, (one j y hj).1]
  · rw [(one k x hx).2]; exact hN
  · obtain ⟨b, hb1, hb2, hb3⟩ := hL i x hx
    rw [(one j y hy).2] at hxy
    exact hq b hb1 hb2 (hb3.symm.trans hxy)
theorem Rel.heap {D : va_G} {N0 : Nat} {r φ : Nat → Nat} {s : State} {G : AHp} {H H1 : Heap} (h : Rel D N0 r s φ G H) (hN : N0 ≤ H.size) (ho : ∀ x : Nat, x < H.size → H1[x]? = H[x]?) : Rel D N0 r s φ G H1 := by
  obtain ⟨L, E, h1, h2, h3, h4, h5, h6, h7⟩ := h
  refine ⟨L, E, h1, h2, h3, fun k x hx => (h4 k x hx).kept (ho _ (h4 k x hx).lt), h5, h6, fun a c ha hc => ?_⟩
  obtain ⟨e0, n, f, e1, e2, e3⟩ := h7 a c ha hc
  exact ⟨e0, n, f, e1, e2.kept (ho _ (by omega)), e3⟩
/-- n cells of one kind, at the names from B on -/
def upN (G : AHp) (B n : Nat) (c : ACell) : AHp := fun x => if B ≤ x ∧ x < B + n then some c else G x
def phN (φ : Nat → Nat) (B n q : Nat) : Nat → Nat := fun x => if B ≤ x ∧ x < B + n then q + (x - B) else φ x
theorem upN_s (G : AHp) (B n : Nat) (c : ACell) : upN G B (n + 1) c = up (upN G B n c) (B + n) c := by
  funext x
  show (if B ≤ x ∧ x < B + (n + 1) then some c else G x) = (if x = B + n then some c else (if B ≤ x ∧ x < B + n then some c else G x))
  by_cases e : x = B + n
  · rw [if_pos (by omega), if_pos e]
  · rw [if_neg e]
    by_cases h : B ≤ x ∧ x < B + n
    · rw [if_pos h, if_pos (by omega)]
    · rw [if_neg h, if_neg (by omega)]
theorem phN_s (φ : Nat → Nat) (B n q : Nat) : phN φ B (n + 1) q = va_up (phN φ B n q) (B + n) (q + n) := by
  funext x
  show (if B ≤ x ∧ x < B + (n + 1) then q + (x - B) else φ x) = (if x = B + n then q + n else (if B ≤ x ∧ x < B + n then q + (x - B) else φ x))
  by_cases e : x = B + n
  · rw [if_pos (by omega), if_pos e]; omega
  · rw [if_neg e]
    by_cases h : B ≤ x ∧ x < B + n
    · rw [if_pos h, if_pos (by omega)]
    · rw [if_neg h, if_neg (by omega)]
theorem Rel.addN {D : va_G} {N0 : Nat} {r φ : Nat → Nat} {s : State} {G : AHp} {H : Heap} (h : Rel D N0 r s φ G H) {B q k : Nat} {cy : ClassId} (hB : 16 ≤ B) (hA1 : ArrOfT s cy .int) (hA2 : va_RA s cy .int) (hN : N0 ≤ q) : ∀ n : Nat, (∀ x, B ≤ x → x < B + n → G x = none) → (∀ b, 16 ≤ b → G b ≠ none → φ b < q) → (∀ j, j < n → H[q + j]? = some (vp_cell cy (k, .inl (fun _ => 0)))) → Rel D N0 r s (phN φ B n q) (upN G B n (aI k (fun _ => 0))) H ∧ (∀ b, okn G b → phN φ B n q b = φ b)
  | 0, _, _, _ => by
    have e1 : upN G B 0 (aI k (fun _ => 0)) = G := by funext x; unfold upN; rw [if_neg (by omega)]
    have e2 : phN φ B 0 q = φ := by funext x; unfold phN; rw [if_neg (by omega)]
    rw [e1, e2]
    exact ⟨h, fun _ _ => rfl⟩
  | n + 1, hf, hlt, hc => by
    obtain ⟨ih, iφ⟩ := Rel.addN h hB hA1 hA2 hN n (fun x h1 h2 => hf x h1 (by omega)) hlt (fun j hj => hc j (by omega))
    rw [upN_s, phN_s]
    have hno : upN G B n (aI k (fun _ => 0)) (B + n) = none := by unfold upN; rw [if_neg (by omega)]; exact hf _ (by omega) (by omega)
    obtain ⟨r1, r2⟩ := ih.add (a := B + n) (q := q + n) (c' := aI k (fun _ => 0)) (e' := .inl (cy, k, .inl (fun _ => 0))) (by omega) hno (fun b hb1 hb2 => by
      unfold upN at hb2
      unfold phN
      by_cases hx : B ≤ b ∧ b < B + n
      · rw [if_pos hx]; omega
      · rw [if_neg hx] at hb2 ⊢
        have := hlt b hb1 hb2
        omega) (by omega) ⟨cy, rfl, hA1, hA2⟩ trivial (hc n (by omega))
    refine ⟨r1, fun b hb => ?_⟩
    rw [r2 b (hb.elim Or.inl (fun z => Or.inr (by unfold upN; by_cases hx : B ≤ b ∧ b < B + n <;> simp [hx, z]))), iφ b hb]
section MNA
variable {d : Nat} {y : MI} {pc : Nat} {ls : List (Option Value)} {st : List Value} {G : AHp} {kc ks : Nat} {Q : Option Value → AHp → Prop}
theorem A.mna {idx a B n k : Nat} {i j : Int32} (hd : decode (mcode y) pc = .ok (.multianewarray idx 2, 4)) (hl : Cond.classLink (mcls y) idx ("[" ++ (FieldType.array .int).toString) ∈ gt) (hac : Cond.arrayClass .int ∈ gt) (hi : i.toInt = (n : Int)) (hj : j.toInt = (k : Int)) (hn : n ≤ 1000) (hk : k ≤ 1000) (ha : 16 ≤ a) (ga : G a = none) (hB : 16 ≤ B) (gB : ∀ x, B ≤ x → x < B + n → G x = none) (haB : a < B ∨ B + n ≤ a) {kc' ks' : Nat} (hkc : kc' + (1 + n) ≤ kc) (hks : ks' + (n + n * k) ≤ ks)
    (kk : A d y (pc + 4) ls (.ref a :: st) (up (upN G B n (aI k (fun _ => 0))) a (aR (.array .int) n (fun x => if x < n then some (B + x) else none))) kc' ks' Q) : A d y pc ls (.int j :: .int i :: st) G kc ks Q := by
  intro l D N0 r φ0 G0 mc ms p e R s m args below meth c H locs cells slots φ la h0 h1 h2 h3 h4 h5 h6 h7 T hT Xs
  have hcl : i.toNatClampNeg = n := by show i.toInt.toNat = n; omega
  have hcl2 : j.toNatClampNeg = k := by show j.toInt.toNat = k; omega
  have hi0 : ¬ i < 0 := by rw [Int32.lt_iff_toInt_lt]; show ¬ i.toInt < 0; omega
  have hj0 : ¬ j < 0 := by rw [Int32.lt_iff_toInt_lt]; show ¬ j.toInt < 0; omega
  have hNs : N0 ≤ s.heap.size := h0.2.2.2.2.2.2.2.2.2.2.2.2.1
  have hN : N0 ≤ H.size := Nat.le_trans hNs h3.1
  obtain ⟨vm₁, cA, cy, fA, fC, hA1, hB1, X', step⟩ := mz_step (n := n) (k := k) Xs h0.1 h0.2.2.2.2.1 (h0.2.2.2.2.2.1 _ hl) (show (Cond.arrayOver (.array .int)).before args s = true from h0.2.2.2.2.2.2.2.2.2.2.2.2.2.2.2.2.1) (h0.2.2.2.2.2.1 _ hac) (g := F0 m pc la ((Value.int j :: .int i :: st).map (tv φ))) rfl (by rw [h0.2.1]; exact hd) rfl hi0 hcl hj0 hcl2 (by omega) (by omega) (by omega) (by omega)
  have hTh : (T.setVm vm₁).heap = H := hT
  have f1 := mz_st_size (T := T.setVm vm₁) (cA := cA) (cy := cy) (n := n) (k := k) n
  have f2 := mz_st_out (T := T.setVm vm₁) (cA := cA) (cy := cy) (n := n) (k := k) n
  have hold := mz_st_old (T := T.setVm vm₁) (cA := cA) (cy := cy) (n := n) (k := k) n
  have hrow := mz_st_row (T := T.setVm vm₁) (cA := cA) (cy := cy) (n := n) (k := k) n
  generalize mz_st (T.setVm vm₁) cA cy n k n = F at X' step f1 f2 hold hrow
  rw [hTh] at f1 f2 hold hrow
  rw [show mz_row cy k = vp_cell cy (k, .inl (fun _ => 0)) by rw [vp_cell_i, ← arrV_new]; rfl] at hrow
  have hlt : ∀ b, 16 ≤ b → G b ≠ none → φ b < H.size := fun b hb1 hb2 => by
    obtain ⟨c0, hc0⟩ := Option.ne_none_iff_exists'.mp hb2
    obtain ⟨e', hP, -, -, -⟩ := h1.at hb1 hc0
    exact (hP 0 _ rfl).lt
  obtain ⟨R1, p1⟩ := Rel.addN (h1.heap hN hold) (B := B) (q := H.size + 1) (k := k) (cy := cy) hB hB1 fC (by omega) n gB (fun b hb1 hb2 => Nat.lt_succ_of_lt (hlt b hb1 hb2)) hrow
  have hφB : ∀ x, x < n → va_up (phN φ B n (H.size + 1)) a H.size (B + x) = H.size + 1 + x := fun x hx => by
    show (if B + x = a then H.size else phN φ B n (H.size + 1) (B + x)) = _
    rw [if_neg (by omega)]
    unfold phN
    rw [if_pos (by omega)]
    omega
  have hfun : (fun x => (if x < n then some (B + x) else none).map (va_up (phN φ B n (H.size + 1)) a H.size)) = (fun x => if x < n then some (H.size + 1 + x) else none) := by
    funext x
    by_cases hx : x < n
    · rw [if_pos hx, if_pos hx]; show some _ = some _; rw [hφB x hx]
    · rw [if_neg hx, if_neg hx]; rfl
  have hout : F.heap[H.size]? = some (vp_cell cA (n, .inr (.inr (.inr (.inr (fun x => if x < n then some (H.size + 1 + x) else none)))))) := by
    rw [f2, vp_cell_q]
    rfl
  have hgB : ∀ x, x < n → upN G B n (aI k (fun _ => 0)) (B + x) ≠ none := fun x hx => by unfold upN; rw [if_pos (by omega)]; simp
  obtain ⟨R2, p2⟩ := R1.add (a := a) (q := H.size) (c' := aR (.array .int) n (fun x => if x < n then some (B + x) else none)) (e' := .inl (cA, n, .inr (.inr (.inr (.inr (fun x => if x < n then some (H.size + 1 + x) else none)))))) ha (by unfold upN; rw [if_neg (by omega)]; exact ga) (fun b hb1 hb2 => by
      unfold upN at hb2
      unfold phN
      by_cases hx : B ≤ b ∧ b < B + n
      · rw [if_pos hx]; omega
      · rw [if_neg hx] at hb2 ⊢
        have := hlt b hb1 hb2
        omega) hN ⟨cA, by show Sum.inl (cA, n, _) = Sum.inl (cA, n, _); rw [hfun], hA1, fA⟩ (fun x b hb => by
      have hb : (if x < n then some (B + x) else none) = some b := hb
      by_cases hx : x < n
      · rw [if_pos hx] at hb; cases hb; exact Or.inr (up_ne (hgB x hx))
      · rw [if_neg hx] at hb; cases hb) hout
  have hmono : ∀ b, G b ≠ none → up (upN G B n (aI k (fun _ => 0))) a (aR (.array .int) n (fun x => if x < n then some (B + x) else none)) b ≠ none := fun b hb => up_ne (by unfold upN; by_cases hx : B ≤ b ∧ b < B + n <;> simp [hx, hb])
  have hmid : ∀ b, okn G b → okn (upN G B n (aI k (fun _ => 0))) b := fun b hb => hb.elim Or.inl (fun z => Or.inr (by unfold upN; by_cases hx : B ≤ b ∧ b < B + n <;> simp [hx, z]))
  have hφ : ∀ b, okn G b → va_up (phN φ B n (H.size + 1)) a H.size b = φ b := fun b hb => (p2 b (hmid b hb)).trans (p1 b hb)
  have hst : Value.ref H.size :: st.map (tv φ) = (Value.ref a :: st).map (tv (va_up (phN φ B n (H.size + 1)) a H.size)) := by
    rw [List.map_cons, tvl_eq hφ (okl_tail (okl_tail h7))]
    show _ = Value.ref (va_up _ a H.size a) :: _
    rw [show va_up (phN φ B n (H.size + 1)) a H.size a = H.size from if_pos rfl]
  obtain ⟨t, a1, b1⟩ := kk l D N0 r φ0 G0 mc ms p e R s m args below meth c F.heap locs (cells + 1 + n) (slots + n + n * k) (va_up (phN φ B n (H.size + 1)) a H.size) la h0 R2 ⟨fun b hb => ⟨hmono b (h2.1 b hb).1, (hφ b (Or.inr (h2.1 b hb).1)).trans (h2.1 b hb).2⟩, fun b hb => (hφ b (Or.inl hb)).trans (h2.2 b hb)⟩
    ⟨by rw [f1]; have := h3.1; omega, fun x x1 x2 => (hold x (Nat.lt_of_lt_of_le x1 h3.1)).trans (h3.2.1 x x1 x2), h3.2.2⟩ ⟨by omega, by omega, h4.2.2⟩ (LH_eq hφ h6 h5) (oks_mono hmono h6) (okl_cons (okv_r (Or.inr (by rw [up_s]; simp))) (okl_mono hmono (okl_tail (okl_tail h7)))) F rfl X'
  refine ⟨t, step t ?_, b1⟩
  have e9 : T.heap.size = H.size := by rw [hT]
  rw [e9]
  rw [← hst] at a1
  exact a1
end MNA
