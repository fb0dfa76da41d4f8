/-! RETURNS AND CALLS -/
section RET
variable {d : Nat} {y : MI} {pc : Nat} {ls : List (Option Value)} {st : List Value} {G : AHp} {kc ks : Nat} {Q : Option Value → AHp → Prop}
theorem A.iret {v : Int32} (hd : decode (mcode y) pc = .ok (.ireturn, 1)) (ht : y.2.2.2 = some .int) (h : Q (some (.int v)) G) : A d y pc ls [.int v] G kc ks Q := by
  intro l D N0 r φ0 G0 mc ms p e R s m args below meth c H locs cells slots φ la h0 h1 h2 h3 h4 h5 h6 h7
  obtain ⟨hx, hb, hr, hml, hown, hts, hlocks, hnm, hK, hSt, hd1, hd2, hN, hnx⟩ := h0
  refine W.widen (k := mc) (n := ms) (by omega) (by omega) ?_
  exact W.iret hx hb (hr.trans ht) (fun t ht hW => ⟨some (.int v), φ, G, rfl, h, h2, fun u hu => by cases hu; exact okv_i, by rw [ht]; exact h1.moved hW.alike, h3.F ht⟩) h3.2.2 hd hlocks
theorem A.zret {v : Int32} (hd : decode (mcode y) pc = .ok (.ireturn, 1)) (ht : y.2.2.2 = some .boolean) (hv : v = 0 ∨ v = 1) (h : Q (some (.int v)) G) : A d y pc ls [.int v] G kc ks Q := by
  intro l D N0 r φ0 G0 mc ms p e R s m args below meth c H locs cells slots φ la h0 h1 h2 h3 h4 h5 h6 h7
  obtain ⟨hx, hb, hr, hml, hown, hts, hlocks, hnm, hK, hSt, hd1, hd2, hN, hnx⟩ := h0
  refine W.widen (k := mc) (n := ms) (by omega) (by omega) ?_
  exact W.zret hx hb (hr.trans ht) (by rcases hv with rfl | rfl <;> rfl) (fun t ht hW => ⟨some (.int v), φ, G, rfl, h, h2, fun u hu => by cases hu; exact okv_i, by rw [ht]; exact h1.moved hW.alike, h3.F ht⟩) h3.2.2 hd hlocks
theorem A.vret (hd : decode (mcode y) pc = .ok (.return_, 1)) (ht : y.2.2.2 = none) (h : Q none G) : A d y pc ls [] G kc ks Q := by
  intro l D N0 r φ0 G0 mc ms p e R s m args below meth c H locs cells slots φ la h0 h1 h2 h3 h4 h5 h6 h7
  obtain ⟨hx, hb, hr, hml, hown, hts, hlocks, hnm, hK, hSt, hd1, hd2, hN, hnx⟩ := h0
  refine W.widen (k := mc) (n := ms) (by omega) (by omega) ?_
  exact W.vret hx hb (hr.trans ht) (fun t ht hW => ⟨none, φ, G, rfl, h, h2, (fun u hu => by cases hu), by rw [ht]; exact h1.moved hW.alike, h3.F ht⟩) h3.2.2 hd hlocks
theorem A.aret {v : Value} {rt : FieldType} (hd : decode (mcode y) pc = .ok (.areturn, 1)) (ht : y.2.2.2 = some rt) (hrt : (∃ n, rt = .object n) ∨ ∃ t, rt = .array t) (hv : isrf v = true) (h : Q (some v) G) : A d y pc ls [v] G kc ks Q := by
  intro l D N0 r φ0 G0 mc ms p e R s m args below meth c H locs cells slots φ la h0 h1 h2 h3 h4 h5 h6 h7
  obtain ⟨hx, hb, hr, hml, hown, hts, hlocks, hnm, hK, hSt, hd1, hd2, hN, hnx⟩ := h0
  refine W.widen (k := mc) (n := ms) (by omega) (by omega) ?_
  refine W.aret hx hb (hr.trans ht) hrt ?_ (fun t ht hW => ⟨some v, φ, G, rfl, h, h2, fun u hu => by cases hu; exact okl_head h7, by rw [ht]; exact h1.moved hW.alike, h3.F ht⟩) h3.2.2 hd hlocks
  cases v <;> first | (cases hv; done) | exact Or.inl rfl | exact Or.inr ⟨_, rfl⟩
end RET
/-- the locals of a method at its entry -/
def entl : List Value → List (Option Value)
  | [] => []
  | v :: vs => if v.category = 2 then some v :: none :: entl vs else some v :: entl vs
def ent (n : Nat) (As : List Value) : List (Option Value) := entl As ++ List.replicate (n - (entl As).length) none
theorem entl_args (φ : Nat → Nat) : ∀ (As : List Value) (b i : Nat) (v : Value), (entl As)[i]? = some (some v) → (b + i, tv φ v) ∈ lv_args b (As.map (tv φ))
  | [], b, i, v, h => by simp [entl] at h
  | w :: As, b, i, v, h => by
    simp only [List.map_cons, lv_args, tv_cat]
    unfold entl at h
    by_cases hc : w.category = 2
    · rw [if_pos hc] at h
      rw [if_pos hc]
      match i with
      | 0 => simp at h; subst h; exact List.mem_cons_self
      | 1 => simp at h
      | i + 2 =>
        have := entl_args φ As (b + 2) i v (by simpa using h)
        rw [show b + 2 + i = b + (i + 2) by omega] at this
        exact List.mem_cons_of_mem _ this
    · rw [if_neg hc] at h
      rw [if_neg hc]
      match i with
      | 0 => simp at h; subst h; exact List.mem_cons_self
      | i + 1 =>
        have := entl_args φ As (b + 1) i v (by simpa using h)
        rw [show b + 1 + i = b + (i + 1) by omega] at this
        exact List.mem_cons_of_mem _ this
theorem entl_len (φ : Nat → Nat) : ∀ As : List Value, (lg_sl (As.map (tv φ))).length = (entl As).length
  | [] => rfl
  | w :: As => by
    have ih := entl_len φ As
    simp only [lg_sl, List.map_cons, List.flatMap_cons, List.length_append, tv_cat] at ih ⊢
    unfold entl
    by_cases hc : w.category = 2
    · rw [if_pos hc, if_pos hc]; simp only [List.length_cons, List.length_nil]; omega
    · rw [if_neg hc, if_neg hc]; simp only [List.length_cons, List.length_nil]; omega
theorem ent_LH {φ : Nat → Nat} {n : Nat} {As : List Value} (h : (entl As).length ≤ n) : LH ((lg_sl (As.map (tv φ)) ++ List.replicate (n - (lg_sl (As.map (tv φ))).length) Slot.unset).toArray) n φ (ent n As) := by
  have h1 := lv_entry (As.map (tv φ)) (n := n) (by rw [entl_len]; exact h)
  refine ⟨h1.1, h1.2.1, fun i v hv => ?_⟩
  unfold ent at hv
  by_cases hi : i < (entl As).length
  · rw [List.getElem?_append_left hi] at hv
    have h2 := entl_args φ As 0 i v hv
    rw [Nat.zero_add] at h2
    exact h1.2.2 _ h2
  · rw [List.getElem?_append_right (by omega)] at hv
    have := List.eq_of_mem_replicate (List.mem_of_getElem? hv)
    cases this
theorem ent_ok {G : AHp} {n : Nat} {As : List Value} (h : okl G As) : oks G (ent n As) := by
  have key : ∀ As : List Value, okl G As → oks G (entl As) := by
    intro As
    induction As with
    | nil => intro _ v hv; cases hv
    | cons w As ih =>
      intro h v hv
      unfold entl at hv
      by_cases hc : w.category = 2
      · rw [if_pos hc] at hv
        rcases List.mem_cons.mp hv with e | hv
        · cases e; exact okl_head h
        · rcases List.mem_cons.mp hv with e | hv
          · cases e
          · exact ih (okl_tail h) v hv
      · rw [if_neg hc] at hv
        rcases List.mem_cons.mp hv with e | hv
        · cases e; exact okl_head h
        · exact ih (okl_tail h) v hv
  intro v hv
  rcases List.mem_append.mp hv with hv | hv
  · exact key As h v hv
  · have := List.eq_of_mem_replicate hv
    cases this
/-- what a method's name and bytes must be for a call -/
def Cal (y : MI) (n : Nat) : Prop := Cond.initialized y.1.cls ∈ gt ∧ Cond.code y.1 y.2.1 y.2.2.1 y.2.2.2 ∈ gt ∧ (y.1.cls ≠ "java/lang/invoke/MethodHandle" ∧ y.1.cls ≠ "java/lang/invoke/VarHandle" ∧ (parseMethodDescriptor y.1.desc).map (fun d => d.parameters.length) = some n) ∧ y.2.2.1 ≤ 21 ∧ plainName y.1.cls = true
abbrev wsO (y : MI) : List Cond := Cond.code y.1 y.2.1 y.2.2.1 y.2.2.2 :: gt
abbrev rmO (d kc ks : Nat) : Room := { frames := d, cells := kc, slots := ks, locals := 40 * d }
def PcO (D : va_G) (N0 : Nat) (r φ : Nat → Nat) (G : AHp) (H : Heap) (As : List Value) : Array Value → State → Prop := fun v U =>
  v = (As.map (tv φ)).toArray ∧ U.heap = H ∧ N0 ≤ H.size ∧ va_K D classes [] U ∧ Sta N0 r U H ∧ NX U ∧ Rel D N0 r U φ G H ∧ okl G As
/-- a judgement of a method at its entry is a contract of it -/
theorem A.met {l : Launch} {d : Nat} {y : MI} {n : Nat} {As : List Value} {G : AHp} {kc ks : Nat} {Q : Option Value → AHp → Prop} {D : va_G} {N0 : Nat} {r φ : Nat → Nat} {H : Heap} (hy : Cal y n) (hlen : (entl As).length ≤ y.2.2.1) (h : A d y 0 (ent y.2.2.1 As) [] G kc ks Q) :
    Met l y.1 (wsO y) (rmO d kc ks) (PcO D N0 r φ G H As) (AQ D N0 r φ G Q) kc ks (fun q => N0 ≤ q) := by
  refine Met.ofW (cc := y.2.1) (maxL := y.2.2.1) (ret := y.2.2.2) hy.2.2.2.2 rfl ?_
  intro p e s m args below meth c s₁ B hml hv
  obtain ⟨rfl, hH, hN, hK, hSt, hnx, hR, hok⟩ := hv
  have hts := atoms_spec (ws := wsO y) B.pre
  rw [lg_entry_eq]
  have hSt' : Sta N0 r s s.heap := by rw [hH]; exact hSt
  have hR' : Rel D N0 r s φ G s.heap := by rw [hH]; exact hR
  exact h l D N0 r φ G kc ks p e (rmO d kc ks) s m _ below meth c s.heap [] 0 0 φ _
    ⟨B.exec, B.bytes, B.returns, hml, findClass_of_methodNamed B.named, fun w hw => hts w (List.mem_cons_of_mem _ hw), B.notSynchronized, (name_of_methodNamed B.named B.method).1, hK, hSt', Nat.le_refl _, Nat.le_refl _, by rw [hH]; exact hN, hnx⟩
    hR' Ext.rf va_S.rf ⟨by omega, by omega, Nat.le_refl _, Nat.le_refl _⟩ (ent_LH hlen) (ent_ok hok) okl_nil
def psh (v : Option Value) (st : List Value) : List Value := match v with
  | none => st
  | some v => v :: st
theorem psh_map (φ : Nat → Nat) (v : Option Value) (st : List Value) : (psh v st).map (tv φ) = (v.map (tv φ)).toList ++ st.map (tv φ) := by cases v <;> rfl
theorem good_wsO {y : MI} {n : Nat} (hy : Cal y n) : GoodIn gt (wsO y) := fun w hw => by
  rcases List.mem_cons.mp hw with rfl | hw
  · exact gt_good _ hy.2.1
  · exact gt_good w hw
theorem blindO {D : va_G} {N0 : Nat} {r φ : Nat → Nat} {G : AHp} {H : Heap} {As : List Value} : FrameBlind (PcO D N0 r φ G H As) := fun a U g mk q => by
  obtain ⟨q1, q2, q3, q4, q5, q6, q7, q8⟩ := q
  exact ⟨q1, q2, q3, va_K.moved (u := U) (U := U.calling g mk a) (Vm.Alike.refl U.vm) q4, Sta.moved (u := U) (U := U.calling g mk a) (Vm.Alike.refl U.vm) q5, NX.warm (s := U) (U := U.calling g mk a) (State.WarmedH.refl U) q6, Rel.moved (u := U) (U := U.calling g mk a) (Vm.Alike.refl U.vm) q7, q8⟩
theorem preO {D : va_G} {N0 : Nat} {r φ : Nat → Nat} {G : AHp} {H : Heap} {As : List Value} {s : State} {locs : List Loc} (hN : N0 ≤ s.heap.size) (hK : va_K D classes [] s) (hSt : Sta N0 r s s.heap) (hnx : NX s) (hR : Rel D N0 r s φ G H) (hS : va_S (fun q => N0 ≤ q) s.heap H locs) (hok : okl G As) : ∀ U : State, U.heap = H → s.WarmedH U.vm → PcO D N0 r φ G H As (As.map (tv φ)).toArray U := fun U hU hW =>
  ⟨rfl, hU, Nat.le_trans hN hS.1, va_K.moved hW.alike hK, (hSt.kept hS.2.1).moved hW.alike, hnx.warm hW, hR.moved hW.alike, hok⟩
/-- behind a call -/
theorem callO {p : Program} {l : Launch} {e : Env} {R : Room} {s : State} {m : MethodId} {args a : Array Value} {below : List Frame} {meth : Method} {c : Code} {H : Heap} {locs : List Loc} {cells slots kc1 ks1 pc : Nat} {la : Array Slot} {st0 rest : List Value} {Z : State → Prop} {D : va_G} {N0 : Nat} {r φ : Nat → Nat} {G : AHp} {Q1 : Option Value → AHp → Prop}
    (hr : va_Run p l e R s m args below meth c H locs cells slots kc1 ks1 (F0 m pc la st0) rest (AQ D N0 r φ G Q1 a) (fun q => N0 ≤ q)) (hS : va_S (fun q => N0 ≤ q) s.heap H locs)
    (kk : ∀ (v : Option Value) (φ' : Nat → Nat) (G' : AHp) (H1 : Heap) (locs1 : List Loc), Q1 v G' → Ext φ G φ' G' → (∀ u, v = some u → okv G' u) → Rel D N0 r s φ' G' H1 → va_S (fun q => N0 ≤ q) s.heap H1 locs1 → W p l e R s m args below meth c H1 locs1 (cells + kc1) (slots + ks1) Z (F0 m (pc + 3) la ((v.map (tv φ')).toList ++ rest))) :
    W p l e R s m args below meth c H locs cells slots Z (F0 m pc la st0) := by
  intro T hT X
  obtain ⟨v, st₀, t, T', L, h0, X', hL, e1, e2, ⟨v', φ', G', hv, hq, hE, hok, hR, hz, hk⟩, st⟩ := hr T hT X
  cases hv
  rw [h0] at hz hk
  have hal : s.vm.Alike t.vm := by rw [← e2]; exact X'.warmed.alike
  obtain ⟨t2, a1, b1⟩ := kk v' φ' G' T'.heap (locs ++ L) hq hE hok (by rw [e1]; exact hR.moved hal.symm) ⟨by rw [e1]; exact Nat.le_trans hS.1 hz, fun q h1 h2 => by rw [e1, hk q (Nat.lt_of_lt_of_le h1 hS.1) h2]; exact hS.2.1 q h1 h2, fun q hq => by
    rcases List.mem_append.mp hq with h | h
    · exact hS.2.2 q h
    · exact hL q h⟩ T' rfl X'
  exact ⟨t2, st t2 a1, b1⟩
def LkS (own : String) (idx : Nat) (y : MI) (n : Nat) : Prop := Cal y n ∧ Cond.static y.1 ∈ gt ∧ (Cond.methodLink own idx y.1 ∈ gt ∨ ∃ host, Cond.methodLinkNest own idx y.1 host ∈ nt)
def LkV (own : String) (idx : Nat) (y : MI) (ci n : Nat) : Prop := Cal y n ∧ Cond.instanceMethod y.1 ∈ gt ∧ (∃ T N, classes[ci]? = some (y.1.cls, T, N)) ∧ Cond.selects y.1.cls y.1 y.1 ∈ gt ∧ (Cond.methodLink own idx y.1 ∈ gt ∨ ∃ host, Cond.methodLinkNest own idx y.1 host ∈ nt)
def LkI (own : String) (idx : Nat) (y : MI) (n : Nat) : Prop := Cal y n ∧ Cond.instanceMethod y.1 ∈ gt ∧ y.1.name = "<init>" ∧ y.2.2.2 = none ∧ (Cond.methodLink own idx y.1 ∈ gt ∨ ∃ host, Cond.methodLinkNest own idx y.1 host ∈ nt)
section CALL
variable {d : Nat} {y : MI} {pc : Nat} {ls : List (Option Value)} {st : List Value} {G : AHp} {kc ks : Nat} {Q : Option Value → AHp → Prop}
theorem catm (φ : Nat → Nat) (st : List Value) : ((st.map (tv φ)).map fun v => v.category).sum = (st.map fun v => v.category).sum := by
  rw [List.map_map]
  congr 1
  exact List.map_congr_left fun v _ => tv_cat φ v
theorem A.afterCall {l : Launch} {D : va_G} {N0 : Nat} {r φ0 : Nat → Nat} {G0 : AHp} {mc ms : Nat} {p : Program} {e : Env} {R : Room} {s : State} {m : MethodId} {args a : Array Value} {below : List Frame} {meth : Method} {c : Code} {H : Heap} {locs : List Loc} {cells slots : Nat} {φ : Nat → Nat} {la : Array Slot} {st0 : List Value} {kc1 ks1 kc2 ks2 : Nat}
    (h0 : Env0 d y D N0 r p R s m args meth c) (h2 : Ext φ0 G0 φ G) (h3 : va_S (fun q => N0 ≤ q) s.heap H locs) (h4 : cells + kc ≤ mc ∧ slots + ks ≤ ms ∧ mc ≤ R.cells ∧ ms ≤ R.slots) (h5 : LH la y.2.2.1 φ ls) (h6 : oks G ls) (h7 : okl G st) (hkc : kc1 + kc2 ≤ kc) (hks : ks1 + ks2 ≤ ks)
    (hr : va_Run p l e R s m args below meth c H locs cells slots kc1 ks1 (F0 m pc la st0) (st.map (tv φ)) (AQ D N0 r φ G (fun v G' => A d y (pc + 3) ls (psh v st) G' kc2 ks2 Q) a) (fun q => N0 ≤ q)) :
    W p l e R s m args below meth c H locs cells slots (MQ below (AQ D N0 r φ0 G0 Q) args s mc ms (fun q => N0 ≤ q)) (F0 m pc la st0) := by
  refine callO hr h3 (fun v φ' G' H1 locs1 hQ hE hok hR hS => ?_)
  have hmono : ∀ b, G b ≠ none → G' b ≠ none := fun b hb => (hE.1 b hb).1
  have hst : (v.map (tv φ')).toList ++ st.map (tv φ) = (psh v st).map (tv φ') := by rw [psh_map, tvl_eq hE.ok h7]
  rw [hst]
  refine hQ l D N0 r φ0 G0 mc ms p e R s m args below meth c H1 locs1 (cells + kc1) (slots + ks1) φ' la h0 hR (h2.tr hE) hS ⟨by omega, by omega, h4.2.2⟩ (LH_eq hE.ok h6 h5) (oks_mono hmono h6) ?_
  cases v with
  | none => exact okl_mono hmono h7
  | some u => exact okl_cons (hok u rfl) (okl_mono hmono h7)
theorem A.callS {idx n d1 kc1 ks1 kc2 ks2 : Nat} {y' : MI} {As : List Value} (hl : LkS (mcls y) idx y' n) (hn : As.length = n) (hlen : (entl As).length ≤ y'.2.2.1) (hw : (st.map fun v => v.category).sum ≤ 8) (hdd : d1 + 1 ≤ d) (hkc : kc1 + kc2 ≤ kc) (hks : ks1 + ks2 ≤ ks) (hd : decode (mcode y) pc = .ok (.invokestatic idx, 3))
    (kk : A d1 y' 0 (ent y'.2.2.1 As) [] G kc1 ks1 (fun v G' => A d y (pc + 3) ls (psh v st) G' kc2 ks2 Q)) : A d y pc ls (As.reverse ++ st) G kc ks Q := by
  intro l D N0 r φ0 G0 mc ms p e R s m args below meth c H locs cells slots φ la h0 h1 h2 h3 h4 h5 h6 h7
  have hA : okl G As := fun v hv => h7 v (List.mem_append_left _ (List.mem_reverse.mpr hv))
  have hst : okl G st := fun v hv => h7 v (List.mem_append_right _ hv)
  have hM := A.met (l := l) (D := D) (N0 := N0) (r := r) (φ := φ) (H := H) hl.1 hlen kk
  refine A.afterCall (a := (As.map (tv φ)).toArray) h0 h2 h3 h4 h5 h6 hst hkc hks ?_
  obtain ⟨hx, hb, hr, hml, hown, hts, hlocks, hnm, hK, hSt, hd1, hd2, hN, hnx⟩ := h0
  obtain ⟨hc, hstat, hlk⟩ := hl
  have h21 := hc.2.2.2.1
  have hRm : (rmO d1 kc1 ks1).frames + 1 ≤ R.frames ∧ 8 + (y'.2.2.1 + 11) + (rmO d1 kc1 ks1).locals ≤ R.locals := ⟨by show d1 + 1 ≤ _; omega, by show _ + 40 * d1 ≤ _; omega⟩
  have hstk : ((As.reverse ++ st).map (tv φ)) = (As.map (tv φ)).reverse ++ st.map (tv φ) := by rw [List.map_append, List.map_reverse]
  rcases hlk with hlk | ⟨host, hlk⟩
  · exact va_runS ⟨hx, hb, hml, hown, hts⟩ hM ⟨callB_of n hts (good_wsO hc) rfl rfl rfl (hts _ hc.1) (hts _ hlk) hc.2.2.1 hRm, hts _ hstat⟩ ⟨blindO, preO hN hK hSt hnx h1 h3 hA⟩ rfl (by rw [List.length_map]; exact hn) h5.1 hstk (by rw [catm]; exact lv_room hw) hd ⟨by omega, by omega⟩
  · exact va_runSN ⟨hx, hb, hml, hown, hts⟩ hM ⟨va_cnB n hts (good_wsO hc) rfl rfl rfl (hnx.1 _ hlk) (hts _ hc.1) hc.2.2.1 hRm, hts _ hstat, trivial⟩ ⟨blindO, preO hN hK hSt hnx h1 h3 hA⟩ rfl (by rw [List.length_map]; exact hn) h5.1 hstk (by rw [catm]; exact lv_room hw) hd ⟨by omega, by omega⟩
theorem A.callV {idx n ci a d1 kc1 ks1 kc2 ks2 : Nat} {fs : List Value} {y' : MI} {As : List Value} (hl : LkV (mcls y) idx y' ci n) (ha : G a = some (oB ci fs)) (hn : As.length = n) (hlen : (entl (.ref a :: As)).length ≤ y'.2.2.1) (hw : (st.map fun v => v.category).sum ≤ 8) (hdd : d1 + 1 ≤ d) (hkc : kc1 + kc2 ≤ kc) (hks : ks1 + ks2 ≤ ks) (hd : decode (mcode y) pc = .ok (.invokevirtual idx, 3))
    (kk : A d1 y' 0 (ent y'.2.2.1 (.ref a :: As)) [] G kc1 ks1 (fun v G' => A d y (pc + 3) ls (psh v st) G' kc2 ks2 Q)) : A d y pc ls (As.reverse ++ .ref a :: st) G kc ks Q := by
  intro l D N0 r φ0 G0 mc ms p e R s m args below meth c H locs cells slots φ la h0 h1 h2 h3 h4 h5 h6 h7
  have hA : okl G (.ref a :: As) := fun v hv => by
    rcases List.mem_cons.mp hv with rfl | hv
    · exact h7 _ (List.mem_append_right _ List.mem_cons_self)
    · exact h7 v (List.mem_append_left _ (List.mem_reverse.mpr hv))
  have hst : okl G st := fun v hv => h7 v (List.mem_append_right _ (List.mem_cons_of_mem _ hv))
  have hM := A.met (l := l) (D := D) (N0 := N0) (r := r) (φ := φ) (H := H) hl.1 hlen kk
  refine A.afterCall (a := (Value.ref (φ a) :: As.map (tv φ)).toArray) h0 h2 h3 h4 h5 h6 hst hkc hks ?_
  obtain ⟨hx, hb, hr, hml, hown, hts, hlocks, hnm, hK, hSt, hd1, hd2, hN, hnx⟩ := h0
  obtain ⟨hc, hinst, ⟨T, N, hcl⟩, hsel, hlk⟩ := hl
  have h21 := hc.2.2.2.1
  have hRm : (rmO d1 kc1 ks1).frames + 1 ≤ R.frames ∧ 8 + (y'.2.2.1 + 11) + (rmO d1 kc1 ks1).locals ≤ R.locals := ⟨by show d1 + 1 ≤ _; omega, by show _ + 40 * d1 ≤ _; omega⟩
  have hstk : ((As.reverse ++ .ref a :: st).map (tv φ)) = (As.map (tv φ)).reverse ++ .ref (φ a) :: st.map (tv φ) := by rw [List.map_append, List.map_reverse]; rfl
  have h16 := h1.hi ha (fun n f h => by cases h)
  obtain ⟨e', hP, hz, -, -⟩ := h1.at h16 ha
  cases (show e' = _ from hz)
  have hrecv := va_recv hK hP hcl (q0 := 0) rfl
  rcases hlk with hlk | ⟨host, hlk⟩
  · exact va_runV ⟨hx, hb, hml, hown, hts⟩ hM ⟨callB_of n hts (good_wsO hc) rfl rfl rfl (hts _ hc.1) (hts _ hlk) hc.2.2.1 hRm, hts _ hinst, hts _ hsel⟩ ⟨blindO, hrecv, preO hN hK hSt hnx h1 h3 hA⟩ rfl (by rw [List.length_map]; exact hn) h5.1 hstk (by rw [catm]; exact lv_room hw) hd ⟨by omega, by omega⟩
  · exact va_runVN ⟨hx, hb, hml, hown, hts⟩ hM ⟨va_cnB n hts (good_wsO hc) rfl rfl rfl (hnx.1 _ hlk) (hts _ hc.1) hc.2.2.1 hRm, hts _ hinst, hts _ hsel⟩ ⟨blindO, hrecv, preO hN hK hSt hnx h1 h3 hA⟩ rfl (by rw [List.length_map]; exact hn) h5.1 hstk (by rw [catm]; exact lv_room hw) hd ⟨by omega, by omega⟩
theorem A.callI {idx n a d1 kc1 ks1 kc2 ks2 : Nat} {y' : MI} {As : List Value} (hl : LkI (mcls y) idx y' n) (hn : As.length = n) (hlen : (entl (.ref a :: As)).length ≤ y'.2.2.1) (hw : (st.map fun v => v.category).sum ≤ 8) (hdd : d1 + 1 ≤ d) (hkc : kc1 + kc2 ≤ kc) (hks : ks1 + ks2 ≤ ks) (hd : decode (mcode y) pc = .ok (.invokespecial idx, 3))
    (kk : A d1 y' 0 (ent y'.2.2.1 (.ref a :: As)) [] G kc1 ks1 (fun v G' => A d y (pc + 3) ls (psh v st) G' kc2 ks2 Q)) : A d y pc ls (As.reverse ++ .ref a :: st) G kc ks Q := by
  intro l D N0 r φ0 G0 mc ms p e R s m args below meth c H locs cells slots φ la h0 h1 h2 h3 h4 h5 h6 h7
  have hA : okl G (.ref a :: As) := fun v hv => by
    rcases List.mem_cons.mp hv with rfl | hv
    · exact h7 _ (List.mem_append_right _ List.mem_cons_self)
    · exact h7 v (List.mem_append_left _ (List.mem_reverse.mpr hv))
  have hst : okl G st := fun v hv => h7 v (List.mem_append_right _ (List.mem_cons_of_mem _ hv))
  have hM := A.met (l := l) (D := D) (N0 := N0) (r := r) (φ := φ) (H := H) hl.1 hlen kk
  refine A.afterCall (a := (Value.ref (φ a) :: As.map (tv φ)).toArray) h0 h2 h3 h4 h5 h6 hst hkc hks ?_
  obtain ⟨hx, hb, hr, hml, hown, hts, hlocks, hnm, hK, hSt, hd1, hd2, hN, hnx⟩ := h0
  obtain ⟨hc, hinst, hin, hnone, hlk⟩ := hl
  have h21 := hc.2.2.2.1
  have hRm : (rmO d1 kc1 ks1).frames + 1 ≤ R.frames ∧ 8 + (y'.2.2.1 + 11) + (rmO d1 kc1 ks1).locals ≤ R.locals := ⟨by show d1 + 1 ≤ _; omega, by show _ + 40 * d1 ≤ _; omega⟩
  have hstk : ((As.reverse ++ .ref a :: st).map (tv φ)) = (As.map (tv φ)).reverse ++ .ref (φ a) :: st.map (tv φ) := by rw [List.map_append, List.map_reverse]; rfl
  obtain ⟨yn, yb, yl, yr⟩ := y'
  cases (show yr = none from hnone)
  rcases hlk with hlk | ⟨host, hlk⟩
  · exact va_runI (As := As.map (tv φ)) ⟨hx, hb, hml, hown, hts⟩ hM ⟨callB_of n hts (good_wsO hc) rfl rfl rfl (hts _ hc.1) (hts _ hlk) hc.2.2.1 hRm, hin, hts _ hinst⟩ ⟨blindO, preO hN hK hSt hnx h1 h3 hA⟩ rfl (by rw [List.length_map]; exact hn) h5.1 hstk (by rw [catm]; exact lv_room hw) hd ⟨by omega, by omega⟩
  · exact va_runIN (As := As.map (tv φ)) ⟨hx, hb, hml, hown, hts⟩ hM ⟨va_cnB n hts (good_wsO hc) rfl rfl rfl (hnx.1 _ hlk) (hts _ hc.1) hc.2.2.1 hRm, hin, hts _ hinst⟩ ⟨blindO, preO hN hK hSt hnx h1 h3 hA⟩ rfl (by rw [List.length_map]; exact hn) h5.1 hstk (by rw [catm]; exact lv_room hw) hd ⟨by omega, by omega⟩
end CALL
