section RULES
variable {d : Nat} {y : MI} {pc : Nat} {ls : List (Option Value)} {st : List Value} {G : AHp} {kc ks : Nat} {Q : Option Value → AHp → Prop}
theorem A.pure {pc' : Nat} {st' : List Value} (h : ∀ {p : Program} {l : Launch} {e : Env} {R : Room} {s : State} {m : MethodId} {args : Array Value} {below : List Frame} {meth : Method} {c : Code} {H : Heap} {locs : List Loc} {cells slots : Nat} {Z : State → Prop} {la : Array Slot} {φ : Nat → Nat}, p.tables.exec = Jvm.exec → c.code = mcode y → W p l e R s m args below meth c H locs cells slots Z (F0 m pc' la (st'.map (tv φ))) → W p l e R s m args below meth c H locs cells slots Z (F0 m pc la (st.map (tv φ))))
    (hok : ∀ G, okl G st → okl G st') (k : A d y pc' ls st' G kc ks Q) : A d y pc ls st G kc ks Q :=
  fun l D N0 r φ0 G0 mc ms p e R s m args below meth c H locs cells slots φ la h0 h1 h2 h3 h4 h5 h6 h7 => h h0.1 h0.2.1 (k l D N0 r φ0 G0 mc ms p e R s m args below meth c H locs cells slots φ la h0 h1 h2 h3 h4 h5 h6 (hok G h7))
/-- a branch: on which side, the machine says -/
theorem A.br {P : Prop} {pc1 pc2 : Nat} {st' : List Value} (h : ∀ {p : Program} {l : Launch} {e : Env} {R : Room} {s : State} {m : MethodId} {args : Array Value} {below : List Frame} {meth : Method} {c : Code} {H : Heap} {locs : List Loc} {cells slots : Nat} {Z : State → Prop} {la : Array Slot} {φ : Nat → Nat}, p.tables.exec = Jvm.exec → c.code = mcode y → (P → W p l e R s m args below meth c H locs cells slots Z (F0 m pc1 la (st'.map (tv φ)))) → (¬ P → W p l e R s m args below meth c H locs cells slots Z (F0 m pc2 la (st'.map (tv φ)))) → W p l e R s m args below meth c H locs cells slots Z (F0 m pc la (st.map (tv φ))))
    (hok : ∀ G, okl G st → okl G st') (k1 : P → A d y pc1 ls st' G kc ks Q) (k2 : ¬ P → A d y pc2 ls st' G kc ks Q) : A d y pc ls st G kc ks Q :=
  fun l D N0 r φ0 G0 mc ms p e R s m args below meth c H locs cells slots φ la h0 h1 h2 h3 h4 h5 h6 h7 => h h0.1 h0.2.1 (fun hP => k1 hP l D N0 r φ0 G0 mc ms p e R s m args below meth c H locs cells slots φ la h0 h1 h2 h3 h4 h5 h6 (hok G h7)) (fun hP => k2 hP l D N0 r φ0 G0 mc ms p e R s m args below meth c H locs cells slots φ la h0 h1 h2 h3 h4 h5 h6 (hok G h7))
/-- fewer locals known -/
theorem A.drop {ls' : List (Option Value)} (h : ∀ (i : Nat) (v : Value), ls'[i]? = some (some v) → ls[i]? = some (some v)) (k : A d y pc ls' st G kc ks Q) : A d y pc ls st G kc ks Q :=
  fun l D N0 r φ0 G0 mc ms p e R s m args below meth c H locs cells slots φ la h0 h1 h2 h3 h4 h5 h6 h7 => k l D N0 r φ0 G0 mc ms p e R s m args below meth c H locs cells slots φ la h0 h1 h2 h3 h4 ⟨h5.1, h5.2.1, fun i v hv => h5.2.2 i v (h i v hv)⟩ (fun v hv => by
    obtain ⟨i, hi⟩ := List.getElem?_of_mem hv
    exact h6 v (List.mem_of_getElem? (h i v hi))) h7
/-- less room, weaker end -/
theorem A.room {kc' ks' : Nat} (h1 : kc' ≤ kc) (h2 : ks' ≤ ks) (k : A d y pc ls st G kc' ks' Q) : A d y pc ls st G kc ks Q :=
  fun l D N0 r φ0 G0 mc ms p e R s m args below meth c H locs cells slots φ la a0 a1 a2 a3 a4 a5 a6 a7 => k l D N0 r φ0 G0 mc ms p e R s m args below meth c H locs cells slots φ la a0 a1 a2 a3 ⟨Nat.le_trans (Nat.add_le_add_left h1 _) a4.1, Nat.le_trans (Nat.add_le_add_left h2 _) a4.2.1, a4.2.2⟩ a5 a6 a7
theorem A.deep {d' : Nat} (h : d' ≤ d) (k : A d' y pc ls st G kc ks Q) : A d y pc ls st G kc ks Q :=
  fun l D N0 r φ0 G0 mc ms p e R s m args below meth c H locs cells slots φ la a0 a1 a2 a3 a4 a5 a6 a7 => by
    obtain ⟨b1, b2, b3, b4, b5, b6, b7, b8, b9, b10, b11, b12, b13, b14⟩ := a0
    exact k l D N0 r φ0 G0 mc ms p e R s m args below meth c H locs cells slots φ la ⟨b1, b2, b3, b4, b5, b6, b7, b8, b9, b10, by omega, by omega, b13, b14⟩ a1 a2 a3 a4 a5 a6 a7
theorem A.post {Q' : Option Value → AHp → Prop} (h : ∀ v G, Q' v G → Q v G) (k : A d y pc ls st G kc ks Q') : A d y pc ls st G kc ks Q :=
  fun l D N0 r φ0 G0 mc ms p e R s m args below meth c H locs cells slots φ la a0 a1 a2 a3 a4 a5 a6 a7 T hT X => by
    obtain ⟨t, b1, o, b2, b3, b4, b5⟩ := k l D N0 r φ0 G0 mc ms p e R s m args below meth c H locs cells slots φ la a0 a1 a2 a3 a4 a5 a6 a7 T hT X
    obtain ⟨v, φ1, G1, c1, c2, c3⟩ := b4
    exact ⟨t, b1, o, b2, b3, ⟨v, φ1, G1, c1, h v G1 c2, c3⟩, b5⟩

theorem A.iconst {n : Int} {v : Int32} (hv : Int32.ofInt n = v) (hd : decode (mcode y) pc = .ok (.iconst n, 1)) (k : A d y (pc + 1) ls (.int v :: st) G kc ks Q) : A d y pc ls st G kc ks Q := A.pure (fun hx hb k => lv_iconst hx hb hd hv k) (fun _ h => okl_cons okv_i h) k
theorem A.bipush {n : Int} {v : Int32} (hv : (Int8.ofInt n).toInt32 = v) (hd : decode (mcode y) pc = .ok (.bipush n, 2)) (k : A d y (pc + 2) ls (.int v :: st) G kc ks Q) : A d y pc ls st G kc ks Q := A.pure (fun hx hb k => lv_bipush hx hb hd hv k) (fun _ h => okl_cons okv_i h) k
theorem A.sipush {n : Int} {v : Int32} (hv : (Int16.ofInt n).toInt32 = v) (hd : decode (mcode y) pc = .ok (.sipush n, 3)) (k : A d y (pc + 3) ls (.int v :: st) G kc ks Q) : A d y pc ls st G kc ks Q := A.pure (fun hx hb k => lv_sipush hx hb hd hv k) (fun _ h => okl_cons okv_i h) k
theorem A.lconst {n : Fin 2} {v : Int64} (hv : Int64.ofNat (n : Nat) = v) (hd : decode (mcode y) pc = .ok (.lconst n, 1)) (k : A d y (pc + 1) ls (.long v :: st) G kc ks Q) : A d y pc ls st G kc ks Q := A.pure (fun hx hb k => lv_lconst hx hb hd hv k) (fun _ h => okl_cons okv_l h) k
theorem A.null  (hd : decode (mcode y) pc = .ok (.aconst_null, 1)) (k : A d y (pc + 1) ls (.null :: st) G kc ks Q) : A d y pc ls st G kc ks Q := A.pure (fun hx hb k => lv_null hx hb hd k) (fun _ h => okl_cons okv_0 h) k
theorem A.iadd {x z : Int32} (hd : decode (mcode y) pc = .ok (.iadd, 1)) (k : A d y (pc + 1) ls (.int (x + z) :: st) G kc ks Q) : A d y pc ls (.int z :: .int x :: st) G kc ks Q := A.pure (fun hx hb k => lv_iadd hx hb hd k) (fun _ h => okl_cons okv_i (okl_tail (okl_tail h))) k
theorem A.isub {x z : Int32} (hd : decode (mcode y) pc = .ok (.isub, 1)) (k : A d y (pc + 1) ls (.int (x - z) :: st) G kc ks Q) : A d y pc ls (.int z :: .int x :: st) G kc ks Q := A.pure (fun hx hb k => lv_isub hx hb hd k) (fun _ h => okl_cons okv_i (okl_tail (okl_tail h))) k
theorem A.imul {x z : Int32} (hd : decode (mcode y) pc = .ok (.imul, 1)) (k : A d y (pc + 1) ls (.int (x * z) :: st) G kc ks Q) : A d y pc ls (.int z :: .int x :: st) G kc ks Q := A.pure (fun hx hb k => lv_imul hx hb hd k) (fun _ h => okl_cons okv_i (okl_tail (okl_tail h))) k
theorem A.iand {x z : Int32} (hd : decode (mcode y) pc = .ok (.iand, 1)) (k : A d y (pc + 1) ls (.int (x &&& z) :: st) G kc ks Q) : A d y pc ls (.int z :: .int x :: st) G kc ks Q := A.pure (fun hx hb k => lv_iand hx hb hd k) (fun _ h => okl_cons okv_i (okl_tail (okl_tail h))) k
theorem A.ior {x z : Int32} (hd : decode (mcode y) pc = .ok (.ior, 1)) (k : A d y (pc + 1) ls (.int (x ||| z) :: st) G kc ks Q) : A d y pc ls (.int z :: .int x :: st) G kc ks Q := A.pure (fun hx hb k => lv_ior hx hb hd k) (fun _ h => okl_cons okv_i (okl_tail (okl_tail h))) k
theorem A.ishl {x z : Int32} (hd : decode (mcode y) pc = .ok (.ishl, 1)) (k : A d y (pc + 1) ls (.int (x <<< (z &&& 31)) :: st) G kc ks Q) : A d y pc ls (.int z :: .int x :: st) G kc ks Q := A.pure (fun hx hb k => lv_ishl hx hb hd k) (fun _ h => okl_cons okv_i (okl_tail (okl_tail h))) k
theorem A.ishr {x z : Int32} (hd : decode (mcode y) pc = .ok (.ishr, 1)) (k : A d y (pc + 1) ls (.int (x >>> (z &&& 31)) :: st) G kc ks Q) : A d y pc ls (.int z :: .int x :: st) G kc ks Q := A.pure (fun hx hb k => lv_ishr hx hb hd k) (fun _ h => okl_cons okv_i (okl_tail (okl_tail h))) k
theorem A.idiv {x z : Int32} (hne : ¬ z = 0) (hd : decode (mcode y) pc = .ok (.idiv, 1)) (k : A d y (pc + 1) ls (.int (x / z) :: st) G kc ks Q) : A d y pc ls (.int z :: .int x :: st) G kc ks Q := A.pure (fun hx hb k => lv_idiv hx hb hd hne k) (fun _ h => okl_cons okv_i (okl_tail (okl_tail h))) k
theorem A.irem {x z : Int32} (hne : ¬ z = 0) (hd : decode (mcode y) pc = .ok (.irem, 1)) (k : A d y (pc + 1) ls (.int (x - x / z * z) :: st) G kc ks Q) : A d y pc ls (.int z :: .int x :: st) G kc ks Q := A.pure (fun hx hb k => lv_irem hx hb hd hne k) (fun _ h => okl_cons okv_i (okl_tail (okl_tail h))) k
theorem A.ladd {x z : Int64} (hd : decode (mcode y) pc = .ok (.ladd, 1)) (k : A d y (pc + 1) ls (.long (x + z) :: st) G kc ks Q) : A d y pc ls (.long z :: .long x :: st) G kc ks Q := A.pure (fun hx hb k => lv_ladd hx hb hd k) (fun _ h => okl_cons okv_l (okl_tail (okl_tail h))) k
theorem A.lmul {x z : Int64} (hd : decode (mcode y) pc = .ok (.lmul, 1)) (k : A d y (pc + 1) ls (.long (x * z) :: st) G kc ks Q) : A d y pc ls (.long z :: .long x :: st) G kc ks Q := A.pure (fun hx hb k => lv_lmul hx hb hd k) (fun _ h => okl_cons okv_l (okl_tail (okl_tail h))) k
theorem A.ldiv {x z : Int64} (hne : ¬ z = 0) (hd : decode (mcode y) pc = .ok (.ldiv, 1)) (k : A d y (pc + 1) ls (.long (x / z) :: st) G kc ks Q) : A d y pc ls (.long z :: .long x :: st) G kc ks Q := A.pure (fun hx hb k => lv_ldiv hx hb hd hne k) (fun _ h => okl_cons okv_l (okl_tail (okl_tail h))) k
theorem A.lrem {x z : Int64} (hne : ¬ z = 0) (hd : decode (mcode y) pc = .ok (.lrem, 1)) (k : A d y (pc + 1) ls (.long (x - x / z * z) :: st) G kc ks Q) : A d y pc ls (.long z :: .long x :: st) G kc ks Q := A.pure (fun hx hb k => lv_lrem hx hb hd hne k) (fun _ h => okl_cons okv_l (okl_tail (okl_tail h))) k
theorem A.lcmp {x z : Int64} (hd : decode (mcode y) pc = .ok (.lcmp, 1)) (k : A d y (pc + 1) ls (.int (lg_cmp x z) :: st) G kc ks Q) : A d y pc ls (.long z :: .long x :: st) G kc ks Q := A.pure (fun hx hb k => W.lcmp hx hb hd k) (fun _ h => okl_cons okv_i (okl_tail (okl_tail h))) k
theorem A.ineg {x : Int32} (hd : decode (mcode y) pc = .ok (.ineg, 1)) (k : A d y (pc + 1) ls (.int (-x) :: st) G kc ks Q) : A d y pc ls (.int x :: st) G kc ks Q := A.pure (fun hx hb k => lv_ineg hx hb hd k) (fun _ h => okl_cons okv_i (okl_tail h)) k
theorem A.i2l {x : Int32} (hd : decode (mcode y) pc = .ok (.i2l, 1)) (k : A d y (pc + 1) ls (.long x.toInt64 :: st) G kc ks Q) : A d y pc ls (.int x :: st) G kc ks Q := A.pure (fun hx hb k => lv_i2l hx hb hd rfl k) (fun _ h => okl_cons okv_l (okl_tail h)) k
theorem A.l2i {x : Int64} (hd : decode (mcode y) pc = .ok (.l2i, 1)) (k : A d y (pc + 1) ls (.int x.toInt32 :: st) G kc ks Q) : A d y pc ls (.long x :: st) G kc ks Q := A.pure (fun hx hb k => lv_l2i hx hb hd rfl k) (fun _ h => okl_cons okv_i (okl_tail h)) k
theorem A.dup {v : Value} (hc : v.category = 1) (hd : decode (mcode y) pc = .ok (.dup, 1)) (k : A d y (pc + 1) ls (v :: v :: st) G kc ks Q) : A d y pc ls (v :: st) G kc ks Q := A.pure (fun hx hb k => lv_dup hx hb hd ((tv_cat _ v).trans hc) k) (fun _ h => okl_cons (okl_head h) h) k
theorem A.pop {v : Value} (hc : v.category = 1) (hd : decode (mcode y) pc = .ok (.pop, 1)) (k : A d y (pc + 1) ls st G kc ks Q) : A d y pc ls (v :: st) G kc ks Q := A.pure (fun hx hb k => lv_pop hx hb hd ((tv_cat _ v).trans hc) k) (fun _ h => okl_tail h) k
theorem A.dup_x1 {v w : Value} (hc : v.category = 1) (hc2 : w.category = 1) (hd : decode (mcode y) pc = .ok (.dup_x1, 1)) (k : A d y (pc + 1) ls (v :: w :: v :: st) G kc ks Q) : A d y pc ls (v :: w :: st) G kc ks Q := A.pure (fun hx hb k => lv_dup_x1 hx hb hd ((tv_cat _ v).trans hc) ((tv_cat _ w).trans hc2) k) (fun _ h => okl_cons (okl_head h) (okl_cons (okl_head (okl_tail h)) (okl_cons (okl_head h) (okl_tail (okl_tail h))))) k
theorem A.dup2 {v w : Value} (hc : v.category = 1) (hc2 : w.category = 1) (hd : decode (mcode y) pc = .ok (.dup2, 1)) (k : A d y (pc + 1) ls (v :: w :: v :: w :: st) G kc ks Q) : A d y pc ls (v :: w :: st) G kc ks Q := A.pure (fun hx hb k => lv_dup2_11 hx hb hd ((tv_cat _ v).trans hc) ((tv_cat _ w).trans hc2) k) (fun _ h => okl_cons (okl_head h) (okl_cons (okl_head (okl_tail h)) h)) k
theorem A.goto {off : Int} (tgt : Nat) (ht : (pc : Int) + off = (tgt : Int)) (hd : decode (mcode y) pc = .ok (.goto off, 3)) (k : A d y tgt ls st G kc ks Q) : A d y pc ls st G kc ks Q := A.pure (fun hx hb k => lv_goto hx hb hd ht k) (fun _ h => h) k
theorem A.if_eq {x : Int32} {off : Int} (tgt : Nat) (ht : (pc : Int) + off = (tgt : Int)) (hd : decode (mcode y) pc = .ok (.ifCond .eq off, 3)) (kt : x = 0 → A d y tgt ls st G kc ks Q) (kf : ¬ x = 0 → A d y (pc + 3) ls st G kc ks Q) : A d y pc ls (.int x :: st) G kc ks Q := A.br (P := x = 0) (fun hx hb k1 k2 => lv_if_eq hx hb hd ht k1 k2) (fun _ h => okl_tail h) kt kf
theorem A.if_ne {x : Int32} {off : Int} (tgt : Nat) (ht : (pc : Int) + off = (tgt : Int)) (hd : decode (mcode y) pc = .ok (.ifCond .ne off, 3)) (kt : ¬ x = 0 → A d y tgt ls st G kc ks Q) (kf : x = 0 → A d y (pc + 3) ls st G kc ks Q) : A d y pc ls (.int x :: st) G kc ks Q := A.br (P := x = 0) (fun hx hb k1 k2 => lv_if_ne hx hb hd ht k2 k1) (fun _ h => okl_tail h) kf kt
theorem A.if_lt {x : Int32} {off : Int} (tgt : Nat) (ht : (pc : Int) + off = (tgt : Int)) (hd : decode (mcode y) pc = .ok (.ifCond .lt off, 3)) (kt : x < 0 → A d y tgt ls st G kc ks Q) (kf : ¬ x < 0 → A d y (pc + 3) ls st G kc ks Q) : A d y pc ls (.int x :: st) G kc ks Q := A.br (P := x < 0) (fun hx hb k1 k2 => lv_if_lt hx hb hd ht k1 k2) (fun _ h => okl_tail h) kt kf
theorem A.if_ge {x : Int32} {off : Int} (tgt : Nat) (ht : (pc : Int) + off = (tgt : Int)) (hd : decode (mcode y) pc = .ok (.ifCond .ge off, 3)) (kt : 0 ≤ x → A d y tgt ls st G kc ks Q) (kf : ¬ 0 ≤ x → A d y (pc + 3) ls st G kc ks Q) : A d y pc ls (.int x :: st) G kc ks Q := A.br (P := 0 ≤ x) (fun hx hb k1 k2 => lv_if_ge hx hb hd ht k1 k2) (fun _ h => okl_tail h) kt kf
theorem A.if_gt {x : Int32} {off : Int} (tgt : Nat) (ht : (pc : Int) + off = (tgt : Int)) (hd : decode (mcode y) pc = .ok (.ifCond .gt off, 3)) (kt : 0 < x → A d y tgt ls st G kc ks Q) (kf : ¬ 0 < x → A d y (pc + 3) ls st G kc ks Q) : A d y pc ls (.int x :: st) G kc ks Q := A.br (P := 0 < x) (fun hx hb k1 k2 => lv_if_gt hx hb hd ht k1 k2) (fun _ h => okl_tail h) kt kf
theorem A.if_le {x : Int32} {off : Int} (tgt : Nat) (ht : (pc : Int) + off = (tgt : Int)) (hd : decode (mcode y) pc = .ok (.ifCond .le off, 3)) (kt : x ≤ 0 → A d y tgt ls st G kc ks Q) (kf : ¬ x ≤ 0 → A d y (pc + 3) ls st G kc ks Q) : A d y pc ls (.int x :: st) G kc ks Q := A.br (P := x ≤ 0) (fun hx hb k1 k2 => lv_if_le hx hb hd ht k1 k2) (fun _ h => okl_tail h) kt kf
theorem A.icmp_eq {x z : Int32} {off : Int} (tgt : Nat) (ht : (pc : Int) + off = (tgt : Int)) (hd : decode (mcode y) pc = .ok (.if_icmp .eq off, 3)) (kt : x = z → A d y tgt ls st G kc ks Q) (kf : ¬ x = z → A d y (pc + 3) ls st G kc ks Q) : A d y pc ls (.int z :: .int x :: st) G kc ks Q := A.br (P := x = z) (fun hx hb k1 k2 => lv_icmp_eq hx hb hd ht k1 k2) (fun _ h => okl_tail (okl_tail h)) kt kf
theorem A.icmp_ne {x z : Int32} {off : Int} (tgt : Nat) (ht : (pc : Int) + off = (tgt : Int)) (hd : decode (mcode y) pc = .ok (.if_icmp .ne off, 3)) (kt : ¬ x = z → A d y tgt ls st G kc ks Q) (kf : x = z → A d y (pc + 3) ls st G kc ks Q) : A d y pc ls (.int z :: .int x :: st) G kc ks Q := A.br (P := x = z) (fun hx hb k1 k2 => lv_icmp_ne hx hb hd ht k2 k1) (fun _ h => okl_tail (okl_tail h)) kf kt
theorem A.icmp_lt {x z : Int32} {off : Int} (tgt : Nat) (ht : (pc : Int) + off = (tgt : Int)) (hd : decode (mcode y) pc = .ok (.if_icmp .lt off, 3)) (kt : x < z → A d y tgt ls st G kc ks Q) (kf : ¬ x < z → A d y (pc + 3) ls st G kc ks Q) : A d y pc ls (.int z :: .int x :: st) G kc ks Q := A.br (P := x < z) (fun hx hb k1 k2 => lv_icmp_lt hx hb hd ht k1 k2) (fun _ h => okl_tail (okl_tail h)) kt kf
theorem A.icmp_ge {x z : Int32} {off : Int} (tgt : Nat) (ht : (pc : Int) + off = (tgt : Int)) (hd : decode (mcode y) pc = .ok (.if_icmp .ge off, 3)) (kt : z ≤ x → A d y tgt ls st G kc ks Q) (kf : ¬ z ≤ x → A d y (pc + 3) ls st G kc ks Q) : A d y pc ls (.int z :: .int x :: st) G kc ks Q := A.br (P := z ≤ x) (fun hx hb k1 k2 => lv_icmp_ge hx hb hd ht k1 k2) (fun _ h => okl_tail (okl_tail h)) kt kf
theorem A.icmp_gt {x z : Int32} {off : Int} (tgt : Nat) (ht : (pc : Int) + off = (tgt : Int)) (hd : decode (mcode y) pc = .ok (.if_icmp .gt off, 3)) (kt : z < x → A d y tgt ls st G kc ks Q) (kf : ¬ z < x → A d y (pc + 3) ls st G kc ks Q) : A d y pc ls (.int z :: .int x :: st) G kc ks Q := A.br (P := z < x) (fun hx hb k1 k2 => lv_icmp_gt hx hb hd ht k1 k2) (fun _ h => okl_tail (okl_tail h)) kt kf
theorem A.icmp_le {x z : Int32} {off : Int} (tgt : Nat) (ht : (pc : Int) + off = (tgt : Int)) (hd : decode (mcode y) pc = .ok (.if_icmp .le off, 3)) (kt : x ≤ z → A d y tgt ls st G kc ks Q) (kf : ¬ x ≤ z → A d y (pc + 3) ls st G kc ks Q) : A d y pc ls (.int z :: .int x :: st) G kc ks Q := A.br (P := x ≤ z) (fun hx hb k1 k2 => lv_icmp_le hx hb hd ht k1 k2) (fun _ h => okl_tail (okl_tail h)) kt kf
theorem A.ifnull_r {a : Nat} {off : Int} (hd : decode (mcode y) pc = .ok (.ifnull off, 3)) (k : A d y (pc + 3) ls st G kc ks Q) : A d y pc ls (.ref a :: st) G kc ks Q := A.pure (fun hx hb k => lv_ifnull hx hb hd k) (fun _ h => okl_tail h) k
theorem A.ifnull_0 {off : Int} (tgt : Nat) (ht : (pc : Int) + off = (tgt : Int)) (hd : decode (mcode y) pc = .ok (.ifnull off, 3)) (k : A d y tgt ls st G kc ks Q) : A d y pc ls (.null :: st) G kc ks Q := A.pure (fun hx hb k => lv_ifnullN hx hb hd ht k) (fun _ h => okl_tail h) k
theorem A.ifnonnull_r {a : Nat} {off : Int} (tgt : Nat) (ht : (pc : Int) + off = (tgt : Int)) (hd : decode (mcode y) pc = .ok (.ifnonnull off, 3)) (k : A d y tgt ls st G kc ks Q) : A d y pc ls (.ref a :: st) G kc ks Q := A.pure (fun hx hb k => lv_ifnonnull hx hb hd ht k) (fun _ h => okl_tail h) k
theorem A.ifnonnull_0 {off : Int} (hd : decode (mcode y) pc = .ok (.ifnonnull off, 3)) (k : A d y (pc + 3) ls st G kc ks Q) : A d y pc ls (.null :: st) G kc ks Q := A.pure (fun hx hb k => lv_ifnonnullN hx hb hd k) (fun _ h => okl_tail h) k
theorem A.tableIn {x : Int32} {dflt lo hi off : Int} {offs : Array Int} {len : Nat} (tgt : Nat) (h1 : ¬ x.toInt < lo) (h2 : ¬ hi < x.toInt) (ho : offs[(x.toInt - lo).toNat]? = some off) (ht : (pc : Int) + off = (tgt : Int)) (hd : decode (mcode y) pc = .ok (.tableswitch dflt lo hi offs, len)) (k : A d y tgt ls st G kc ks Q) : A d y pc ls (.int x :: st) G kc ks Q := A.pure (fun hx hb k => lv_tableIn hx hb hd h1 h2 ho ht k) (fun _ h => okl_tail h) k
theorem A.tableOut {x : Int32} {dflt lo hi : Int} {offs : Array Int} {len : Nat} (tgt : Nat) (h : x.toInt < lo ∨ hi < x.toInt) (ht : (pc : Int) + dflt = (tgt : Int)) (hd : decode (mcode y) pc = .ok (.tableswitch dflt lo hi offs, len)) (k : A d y tgt ls st G kc ks Q) : A d y pc ls (.int x :: st) G kc ks Q := A.pure (fun hx hb k => lv_tableOut hx hb hd h ht k) (fun _ h => okl_tail h) k
theorem A.load {pc' i : Nat} {v : Value} (hl : ls[i]? = some (some v)) (h : ∀ {p : Program} {l : Launch} {e : Env} {R : Room} {s : State} {m : MethodId} {args : Array Value} {below : List Frame} {meth : Method} {c : Code} {H : Heap} {locs : List Loc} {cells slots : Nat} {Z : State → Prop} {la : Array Slot} {φ : Nat → Nat}, p.tables.exec = Jvm.exec → c.code = mcode y → la[i]? = some (.val (tv φ v)) → W p l e R s m args below meth c H locs cells slots Z (F0 m pc' la ((v :: st).map (tv φ))) → W p l e R s m args below meth c H locs cells slots Z (F0 m pc la (st.map (tv φ))))
    (k : A d y pc' ls (v :: st) G kc ks Q) : A d y pc ls st G kc ks Q :=
  fun l D N0 r φ0 G0 mc ms p e R s m args below meth c H locs cells slots φ la h0 h1 h2 h3 h4 h5 h6 h7 => h h0.1 h0.2.1 (h5.2.2 i v hl) (k l D N0 r φ0 G0 mc ms p e R s m args below meth c H locs cells slots φ la h0 h1 h2 h3 h4 h5 h6 (okl_cons (h6 v (List.mem_of_getElem? hl)) h7))
theorem A.iload_n {n : Fin 4} {x : Int32} (hl : ls[(n : Nat)]? = some (some (.int x))) (hd : decode (mcode y) pc = .ok (.iload_n n, 1)) (k : A d y (pc + 1) ls (.int x :: st) G kc ks Q) : A d y pc ls st G kc ks Q := A.load hl (fun hx hb hl k => lv_iload_n hx hb hd rfl hl k) k
theorem A.iload {n : Nat} {x : Int32} (hl : ls[n]? = some (some (.int x))) (hd : decode (mcode y) pc = .ok (.iload n, 2)) (k : A d y (pc + 2) ls (.int x :: st) G kc ks Q) : A d y pc ls st G kc ks Q := A.load hl (fun hx hb hl k => lv_iload hx hb hd hl k) k
theorem A.lload_n {n : Fin 4} {x : Int64} (hl : ls[(n : Nat)]? = some (some (.long x))) (hd : decode (mcode y) pc = .ok (.lload_n n, 1)) (k : A d y (pc + 1) ls (.long x :: st) G kc ks Q) : A d y pc ls st G kc ks Q := A.load hl (fun hx hb hl k => lv_lload_n hx hb hd rfl hl k) k
theorem A.lload {n : Nat} {x : Int64} (hl : ls[n]? = some (some (.long x))) (hd : decode (mcode y) pc = .ok (.lload n, 2)) (k : A d y (pc + 2) ls (.long x :: st) G kc ks Q) : A d y pc ls st G kc ks Q := A.load hl (fun hx hb hl k => lv_lload hx hb hd hl k) k
def isrf (v : Value) : Bool := match v with
  | .ref _ => true
  | .null => true
  | _ => false
theorem A.aload_n {n : Fin 4} {v : Value} (hl : ls[(n : Nat)]? = some (some v)) (hr : isrf v = true) (hd : decode (mcode y) pc = .ok (.aload_n n, 1)) (k : A d y (pc + 1) ls (v :: st) G kc ks Q) : A d y pc ls st G kc ks Q := by
  cases v <;> first | (cases hr; done) | exact A.load hl (fun hx hb hl k => lv_aload_n hx hb hd rfl hl k) k | exact A.load hl (fun hx hb hl k => lv_aload_nN hx hb hd rfl hl k) k
theorem A.aload {n : Nat} {v : Value} (hl : ls[n]? = some (some v)) (hr : isrf v = true) (hd : decode (mcode y) pc = .ok (.aload n, 2)) (k : A d y (pc + 2) ls (v :: st) G kc ks Q) : A d y pc ls st G kc ks Q := by
  cases v <;> first | (cases hr; done) | exact A.load hl (fun hx hb hl k => lv_aload hx hb hd hl k) k | exact A.load hl (fun hx hb hl k => lv_aloadN hx hb hd hl k) k
/-- nothing of two words lies just below the place -/
def okst (ls : List (Option Value)) (i : Nat) : Bool := match i with
  | 0 => true
  | j + 1 => match ls[j]? with
    | some (some v) => v.category != 2
    | _ => true
theorem LH_set1 {la la' : Array Slot} {n i : Nat} {φ : Nat → Nat} {ls : List (Option Value)} {v : Value} (h : LH la n φ ls) (hi : i < n) (hc : v.category = 1) (hp : okst ls i = true) (hs : storeLocals la i (tv φ v) = some la') : LH la' n φ (ls.set i (some v)) := by
  have hc' : (tv φ v).category = 1 := (tv_cat φ v).trans hc
  have key : ∀ l : List (Nat × Value), lv_has la n l → lv_has la' n ((i, tv φ v) :: l.filter (fun q => !(q.1 == i) && !(q.1 + 1 == i && q.2.category == 2))) := fun l hl => by
    obtain ⟨la2, e, h2⟩ := lv_store1 (v := tv φ v) hl hi hc'
    rw [hs] at e
    cases e
    exact h2
  have h0 := key [] ⟨h.1, h.2.1, fun q hq => by cases hq⟩
  refine ⟨h0.1, h0.2.1, fun j w hw => ?_⟩
  by_cases e : j = i
  · subst e
    have hlt : j < ls.length := by
      have := (List.getElem?_eq_some_iff.mp hw).1
      simpa using this
    rw [List.getElem?_set_self hlt] at hw
    cases hw
    exact h0.2.2 (j, _) List.mem_cons_self
  · rw [List.getElem?_set_ne (Ne.symm e)] at hw
    have h1 := key [(j, tv φ w)] ⟨h.1, h.2.1, fun q hq => by
      rw [List.mem_singleton] at hq
      subst hq
      exact h.2.2 j w hw⟩
    refine h1.2.2 (j, tv φ w) (List.mem_cons_of_mem _ (List.mem_filter.mpr ⟨List.mem_singleton.mpr rfl, ?_⟩))
    have hcat : j + 1 = i → w.category ≠ 2 := fun ei => by
      subst ei
      unfold okst at hp
      simp only [hw] at hp
      simpa using hp
    simp only [tv_cat, Bool.and_eq_true, Bool.not_eq_true', Bool.and_eq_false_iff, beq_eq_false_iff_ne, ne_eq]
    refine ⟨e, ?_⟩
    by_cases ei : j + 1 = i
    · exact Or.inr (by simpa using hcat ei)
    · exact Or.inl ei
theorem LH_set2 {la la' : Array Slot} {n i : Nat} {φ : Nat → Nat} {ls : List (Option Value)} {v : Value} (h : LH la n φ ls) (hi : i + 1 < n) (hc : v.category = 2) (hp : okst ls i = true) (hs : storeLocals la i (tv φ v) = some la') : LH la' n φ ((ls.set i (some v)).set (i + 1) none) := by
  have hc' : (tv φ v).category = 2 := (tv_cat φ v).trans hc
  have key : ∀ l : List (Nat × Value), lv_has la n l → lv_has la' n ((i, tv φ v) :: l.filter (fun q => !(q.1 == i) && (!(q.1 == i + 1) && !(q.1 + 1 == i && q.2.category == 2)))) := fun l hl => by
    obtain ⟨la2, e, h2⟩ := lv_store2 (v := tv φ v) hl hi hc'
    rw [hs] at e
    cases e
    exact h2
  have h0 := key [] ⟨h.1, h.2.1, fun q hq => by cases hq⟩
  refine ⟨h0.1, h0.2.1, fun j w hw => ?_⟩
  by_cases e1 : j = i + 1
  · subst e1
    have hlt : i + 1 < (ls.set i (some v)).length := by
      have := (List.getElem?_eq_some_iff.mp hw).1
      simpa using this
    rw [List.getElem?_set_self hlt] at hw
    cases hw
  · rw [List.getElem?_set_ne (Ne.symm e1)] at hw
    by_cases e : j = i
    · subst e
      have hlt : j < ls.length := by
        have := (List.getElem?_eq_some_iff.mp hw).1
        simpa using this
      rw [List.getElem?_set_self hlt] at hw
      cases hw
      exact h0.2.2 (j, _) List.mem_cons_self
    · rw [List.getElem?_set_ne (Ne.symm e)] at hw
      have h1 := key [(j, tv φ w)] ⟨h.1, h.2.1, fun q hq => by
        rw [List.mem_singleton] at hq
        subst hq
        exact h.2.2 j w hw⟩
      refine h1.2.2 (j, tv φ w) (List.mem_cons_of_mem _ (List.mem_filter.mpr ⟨List.mem_singleton.mpr rfl, ?_⟩))
      have hcat : j + 1 = i → w.category ≠ 2 := fun ei => by
        subst ei
        unfold okst at hp
        simp only [hw] at hp
        simpa using hp
      simp only [tv_cat, Bool.and_eq_true, Bool.not_eq_true', Bool.and_eq_false_iff, beq_eq_false_iff_ne, ne_eq]
      refine ⟨e, e1, ?_⟩
      by_cases ei : j + 1 = i
      · exact Or.inr (by simpa using hcat ei)
      · exact Or.inl ei
theorem oks_set {G : AHp} {ls : List (Option Value)} {i : Nat} {v : Value} (h : oks G ls) (hv : okv G v) : oks G (ls.set i (some v)) := fun u hu => by
  rcases List.mem_or_eq_of_mem_set hu with h1 | h1
  · exact h u h1
  · cases h1; exact hv
theorem oks_set0 {G : AHp} {ls : List (Option Value)} {i : Nat} (h : oks G ls) : oks G (ls.set i none) := fun u hu => by
  rcases List.mem_or_eq_of_mem_set hu with h1 | h1
  · exact h u h1
  · cases h1
theorem A.store1 {pc' i : Nat} {v : Value} (hi : i < y.2.2.1) (hc : v.category = 1) (hp : okst ls i = true)
    (h : ∀ {p : Program} {l : Launch} {e : Env} {R : Room} {s : State} {m : MethodId} {args : Array Value} {below : List Frame} {meth : Method} {c : Code} {H : Heap} {locs : List Loc} {cells slots : Nat} {Z : State → Prop} {la : Array Slot} {φ : Nat → Nat}, p.tables.exec = Jvm.exec → c.code = mcode y → lv_has la y.2.2.1 [] → (∀ la' : Array Slot, storeLocals la i (tv φ v) = some la' → W p l e R s m args below meth c H locs cells slots Z (F0 m pc' la' (st.map (tv φ)))) → W p l e R s m args below meth c H locs cells slots Z (F0 m pc la ((v :: st).map (tv φ))))
    (k : A d y pc' (ls.set i (some v)) st G kc ks Q) : A d y pc ls (v :: st) G kc ks Q :=
  fun l D N0 r φ0 G0 mc ms p e R s m args below meth c H locs cells slots φ la h0 h1 h2 h3 h4 h5 h6 h7 => h h0.1 h0.2.1 ⟨h5.1, h5.2.1, fun q hq => by cases hq⟩ (fun la' hs => k l D N0 r φ0 G0 mc ms p e R s m args below meth c H locs cells slots φ la' h0 h1 h2 h3 h4 (LH_set1 h5 hi hc hp hs) (oks_set h6 (okl_head h7)) (okl_tail h7))
theorem A.store2 {pc' i : Nat} {v : Value} (hi : i + 1 < y.2.2.1) (hc : v.category = 2) (hp : okst ls i = true)
    (h : ∀ {p : Program} {l : Launch} {e : Env} {R : Room} {s : State} {m : MethodId} {args : Array Value} {below : List Frame} {meth : Method} {c : Code} {H : Heap} {locs : List Loc} {cells slots : Nat} {Z : State → Prop} {la : Array Slot} {φ : Nat → Nat}, p.tables.exec = Jvm.exec → c.code = mcode y → lv_has la y.2.2.1 [] → (∀ la' : Array Slot, storeLocals la i (tv φ v) = some la' → W p l e R s m args below meth c H locs cells slots Z (F0 m pc' la' (st.map (tv φ)))) → W p l e R s m args below meth c H locs cells slots Z (F0 m pc la ((v :: st).map (tv φ))))
    (k : A d y pc' ((ls.set i (some v)).set (i + 1) none) st G kc ks Q) : A d y pc ls (v :: st) G kc ks Q :=
  fun l D N0 r φ0 G0 mc ms p e R s m args below meth c H locs cells slots φ la h0 h1 h2 h3 h4 h5 h6 h7 => h h0.1 h0.2.1 ⟨h5.1, h5.2.1, fun q hq => by cases hq⟩ (fun la' hs => k l D N0 r φ0 G0 mc ms p e R s m args below meth c H locs cells slots φ la' h0 h1 h2 h3 h4 (LH_set2 h5 hi hc hp hs) (oks_set0 (oks_set h6 (okl_head h7))) (okl_tail h7))
theorem A.istore_n {n : Fin 4} {x : Int32} (hi : (n : Nat) < y.2.2.1) (hp : okst ls (n : Nat) = true) (hd : decode (mcode y) pc = .ok (.istore_n n, 1)) (k : A d y (pc + 1) (ls.set (n : Nat) (some (.int x))) st G kc ks Q) : A d y pc ls (.int x :: st) G kc ks Q := by
  refine A.store1 hi rfl hp ?_ k
  intro p l e R s m args below meth c H locs cells slots Z la φ hx hb hl kk
  obtain ⟨la', e', -⟩ := lv_store1 (v := tv φ (.int x)) hl hi rfl
  have kk := kk la' e'
  intro T hT X
  obtain ⟨t, a, b⟩ := kk T hT X
  refine ⟨t, ?_, b⟩
  have e' : storeLocals la (n : Nat) (tv φ (.int x)) = some la' := e'
  simp only [tv] at e'
  simp only [List.map_cons, tv]
  jvm_step X.here [X.here.top, ↓top_set X.here.top, hx, hb, hd, e']
  first | exact a | exact ⟨rfl, a⟩
theorem A.istore {n : Nat} {x : Int32} (hi : (n : Nat) < y.2.2.1) (hp : okst ls (n : Nat) = true) (hd : decode (mcode y) pc = .ok (.istore n, 2)) (k : A d y (pc + 2) (ls.set (n : Nat) (some (.int x))) st G kc ks Q) : A d y pc ls (.int x :: st) G kc ks Q := by
  refine A.store1 hi rfl hp ?_ k
  intro p l e R s m args below meth c H locs cells slots Z la φ hx hb hl kk
  obtain ⟨la', e', -⟩ := lv_store1 (v := tv φ (.int x)) hl hi rfl
  have kk := kk la' e'
  intro T hT X
  obtain ⟨t, a, b⟩ := kk T hT X
  refine ⟨t, ?_, b⟩
  have e' : storeLocals la (n : Nat) (tv φ (.int x)) = some la' := e'
  simp only [tv] at e'
  simp only [List.map_cons, tv]
  jvm_step X.here [X.here.top, ↓top_set X.here.top, hx, hb, hd, e']
  first | exact a | exact ⟨rfl, a⟩
theorem A.astore_nr {n : Fin 4} {x : Nat} (hi : (n : Nat) < y.2.2.1) (hp : okst ls (n : Nat) = true) (hd : decode (mcode y) pc = .ok (.astore_n n, 1)) (k : A d y (pc + 1) (ls.set (n : Nat) (some (.ref x))) st G kc ks Q) : A d y pc ls (.ref x :: st) G kc ks Q := by
  refine A.store1 hi rfl hp ?_ k
  intro p l e R s m args below meth c H locs cells slots Z la φ hx hb hl kk
  obtain ⟨la', e', -⟩ := lv_store1 (v := tv φ (.ref x)) hl hi rfl
  have kk := kk la' e'
  intro T hT X
  obtain ⟨t, a, b⟩ := kk T hT X
  refine ⟨t, ?_, b⟩
  have e' : storeLocals la (n : Nat) (tv φ (.ref x)) = some la' := e'
  simp only [tv] at e'
  simp only [List.map_cons, tv]
  jvm_step X.here [X.here.top, ↓top_set X.here.top, hx, hb, hd, e']
  first | exact a | exact ⟨rfl, a⟩
theorem A.astore_r {n : Nat} {x : Nat} (hi : (n : Nat) < y.2.2.1) (hp : okst ls (n : Nat) = true) (hd : decode (mcode y) pc = .ok (.astore n, 2)) (k : A d y (pc + 2) (ls.set (n : Nat) (some (.ref x))) st G kc ks Q) : A d y pc ls (.ref x :: st) G kc ks Q := by
  refine A.store1 hi rfl hp ?_ k
  intro p l e R s m args below meth c H locs cells slots Z la φ hx hb hl kk
  obtain ⟨la', e', -⟩ := lv_store1 (v := tv φ (.ref x)) hl hi rfl
  have kk := kk la' e'
  intro T hT X
  obtain ⟨t, a, b⟩ := kk T hT X
  refine ⟨t, ?_, b⟩
  have e' : storeLocals la (n : Nat) (tv φ (.ref x)) = some la' := e'
  simp only [tv] at e'
  simp only [List.map_cons, tv]
  jvm_step X.here [X.here.top, ↓top_set X.here.top, hx, hb, hd, e']
  first | exact a | exact ⟨rfl, a⟩
theorem A.astore_n0 {n : Fin 4} (hi : (n : Nat) < y.2.2.1) (hp : okst ls (n : Nat) = true) (hd : decode (mcode y) pc = .ok (.astore_n n, 1)) (k : A d y (pc + 1) (ls.set (n : Nat) (some .null)) st G kc ks Q) : A d y pc ls (.null :: st) G kc ks Q := by
  refine A.store1 hi rfl hp ?_ k
  intro p l e R s m args below meth c H locs cells slots Z la φ hx hb hl kk
  obtain ⟨la', e', -⟩ := lv_store1 (v := tv φ .null) hl hi rfl
  have kk := kk la' e'
  intro T hT X
  obtain ⟨t, a, b⟩ := kk T hT X
  refine ⟨t, ?_, b⟩
  simp only [tv] at e'
  simp only [List.map_cons, tv]
  jvm_step X.here [X.here.top, ↓top_set X.here.top, hx, hb, hd, e']
  first | exact a | exact ⟨rfl, a⟩
theorem A.astore_0 {n : Nat} (hi : (n : Nat) < y.2.2.1) (hp : okst ls (n : Nat) = true) (hd : decode (mcode y) pc = .ok (.astore n, 2)) (k : A d y (pc + 2) (ls.set (n : Nat) (some .null)) st G kc ks Q) : A d y pc ls (.null :: st) G kc ks Q := by
  refine A.store1 hi rfl hp ?_ k
  intro p l e R s m args below meth c H locs cells slots Z la φ hx hb hl kk
  obtain ⟨la', e', -⟩ := lv_store1 (v := tv φ .null) hl hi rfl
  have kk := kk la' e'
  intro T hT X
  obtain ⟨t, a, b⟩ := kk T hT X
  refine ⟨t, ?_, b⟩
  simp only [tv] at e'
  simp only [List.map_cons, tv]
  jvm_step X.here [X.here.top, ↓top_set X.here.top, hx, hb, hd, e']
  first | exact a | exact ⟨rfl, a⟩
theorem A.lstore_n {n : Fin 4} {x : Int64} (hi : (n : Nat) + 1 < y.2.2.1) (hp : okst ls (n : Nat) = true) (hd : decode (mcode y) pc = .ok (.lstore_n n, 1)) (k : A d y (pc + 1) ((ls.set (n : Nat) (some (.long x))).set ((n : Nat) + 1) none) st G kc ks Q) : A d y pc ls (.long x :: st) G kc ks Q := by
  refine A.store2 hi rfl hp ?_ k
  intro p l e R s m args below meth c H locs cells slots Z la φ hx hb hl kk
  obtain ⟨la', e', -⟩ := lv_store2 (v := tv φ (.long x)) hl hi rfl
  have kk := kk la' e'
  intro T hT X
  obtain ⟨t, a, b⟩ := kk T hT X
  refine ⟨t, ?_, b⟩
  simp only [tv] at e'
  simp only [List.map_cons, tv]
  jvm_step X.here [X.here.top, ↓top_set X.here.top, hx, hb, hd, e']
  first | exact a | exact ⟨rfl, a⟩
theorem A.lstore {n : Nat} {x : Int64} (hi : (n : Nat) + 1 < y.2.2.1) (hp : okst ls (n : Nat) = true) (hd : decode (mcode y) pc = .ok (.lstore n, 2)) (k : A d y (pc + 2) ((ls.set (n : Nat) (some (.long x))).set ((n : Nat) + 1) none) st G kc ks Q) : A d y pc ls (.long x :: st) G kc ks Q := by
  refine A.store2 hi rfl hp ?_ k
  intro p l e R s m args below meth c H locs cells slots Z la φ hx hb hl kk
  obtain ⟨la', e', -⟩ := lv_store2 (v := tv φ (.long x)) hl hi rfl
  have kk := kk la' e'
  intro T hT X
  obtain ⟨t, a, b⟩ := kk T hT X
  refine ⟨t, ?_, b⟩
  simp only [tv] at e'
  simp only [List.map_cons, tv]
  jvm_step X.here [X.here.top, ↓top_set X.here.top, hx, hb, hd, e']
  first | exact a | exact ⟨rfl, a⟩
theorem A.iinc {n : Nat} {k : Int} {x v : Int32} (hl : ls[n]? = some (some (.int x))) (hv : x + Int32.ofInt k = v) (hi : n < y.2.2.1) (hd : decode (mcode y) pc = .ok (.iinc n k, 3)) (kk : A d y (pc + 3) (ls.set n (some (.int v))) st G kc ks Q) : A d y pc ls st G kc ks Q :=
  fun l D N0 r φ0 G0 mc ms p e R s m args below meth c H locs cells slots φ la h0 h1 h2 h3 h4 h5 h6 h7 => by
    have hlx : la[n]? = some (.val (.int x)) := h5.2.2 n _ hl
    obtain ⟨la', e', -⟩ := lv_store1 (v := Value.int v) (l := []) ⟨h5.1, h5.2.1, fun q hq => by cases hq⟩ hi rfl
    have hokp : okst ls n = true := by
      unfold okst
      cases n with
      | zero => rfl
      | succ j =>
        cases hj : ls[j]? with
        | none => simp [hj]
        | some o =>
          cases o with
          | none => simp [hj]
          | some w =>
            simp only [hj]
            by_cases hw : w.category = 2
            · have h8 := h5.2.1.1 j (tv φ w) (h5.2.2 j w hj) ((tv_cat φ w).trans hw)
              rw [hlx] at h8
              cases h8
            · simpa using hw
    have kk2 := kk l D N0 r φ0 G0 mc ms p e R s m args below meth c H locs cells slots φ la' h0 h1 h2 h3 h4 (LH_set1 h5 hi rfl hokp e') (oks_set h6 okv_i) h7
    subst hv
    have hx := h0.1
    have hb := h0.2.1
    intro T hT X
    obtain ⟨t, a, b⟩ := kk2 T hT X
    refine ⟨t, ?_, b⟩
    jvm_step X.here [X.here.top, ↓top_set X.here.top, hx, hb, hd, hlx, e']
    exact a
end RULES
