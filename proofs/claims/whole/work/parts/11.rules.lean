/-! the rows once more, as the walks use them -/
section RULES2
variable {d : Nat} {y : MI} {pc : Nat} {ls : List (Option Value)} {st : List Value} {G : AHp} {kc ks : Nat} {Q : Option Value → AHp → Prop}
theorem A.iload_k {n : Fin 4} {x : Int32} (i : Nat) (hi : (n : Nat) = i) (hl : ls[i]? = some (some (.int x))) (hd : decode (mcode y) pc = .ok (.iload_n n, 1)) (k : A d y (pc + 1) ls (.int x :: st) G kc ks Q) : A d y pc ls st G kc ks Q := by subst hi; exact A.iload_n hl hd k
theorem A.lload_k {n : Fin 4} {x : Int64} (i : Nat) (hi : (n : Nat) = i) (hl : ls[i]? = some (some (.long x))) (hd : decode (mcode y) pc = .ok (.lload_n n, 1)) (k : A d y (pc + 1) ls (.long x :: st) G kc ks Q) : A d y pc ls st G kc ks Q := by subst hi; exact A.lload_n hl hd k
theorem A.aload_k {n : Fin 4} {v : Value} (i : Nat) (hi : (n : Nat) = i) (hl : ls[i]? = some (some v)) (hr : isrf v = true) (hd : decode (mcode y) pc = .ok (.aload_n n, 1)) (k : A d y (pc + 1) ls (v :: st) G kc ks Q) : A d y pc ls st G kc ks Q := by subst hi; exact A.aload_n hl hr hd k
theorem A.istore_k {n : Fin 4} {x : Int32} (i : Nat) (hi : (n : Nat) = i) (hlt : i < y.2.2.1) (hp : okst ls i = true) (hd : decode (mcode y) pc = .ok (.istore_n n, 1)) (k : A d y (pc + 1) (ls.set i (some (.int x))) st G kc ks Q) : A d y pc ls (.int x :: st) G kc ks Q := by subst hi; exact A.istore_n hlt hp hd k
theorem A.lstore_k {n : Fin 4} {x : Int64} (i : Nat) (hi : (n : Nat) = i) (hlt : i + 1 < y.2.2.1) (hp : okst ls i = true) (hd : decode (mcode y) pc = .ok (.lstore_n n, 1)) (k : A d y (pc + 1) ((ls.set i (some (.long x))).set (i + 1) none) st G kc ks Q) : A d y pc ls (.long x :: st) G kc ks Q := by subst hi; exact A.lstore_n hlt hp hd k
theorem A.astore_k {n : Fin 4} {v : Value} (i : Nat) (hi : (n : Nat) = i) (hlt : i < y.2.2.1) (hr : isrf v = true) (hp : okst ls i = true) (hd : decode (mcode y) pc = .ok (.astore_n n, 1)) (k : A d y (pc + 1) (ls.set i (some v)) st G kc ks Q) : A d y pc ls (v :: st) G kc ks Q := by
  subst hi
  cases v <;> first | (cases hr; done) | exact A.astore_nr hlt hp hd k | exact A.astore_n0 hlt hp hd k
theorem A.astore {n : Nat} {v : Value} (hlt : n < y.2.2.1) (hr : isrf v = true) (hp : okst ls n = true) (hd : decode (mcode y) pc = .ok (.astore n, 2)) (k : A d y (pc + 2) (ls.set n (some v)) st G kc ks Q) : A d y pc ls (v :: st) G kc ks Q := by
  cases v <;> first | (cases hr; done) | exact A.astore_r hlt hp hd k | exact A.astore_0 hlt hp hd k
theorem isrf_rf (o : Option Nat) : isrf (va_rf o) = true := by cases o <;> rfl
theorem A.if_eq0 {off : Int} (tgt : Nat) (ht : (pc : Int) + off = (tgt : Int)) (hd : decode (mcode y) pc = .ok (.ifCond .eq off, 3)) (k : A d y tgt ls st G kc ks Q) : A d y pc ls (.int 0 :: st) G kc ks Q := A.if_eq tgt ht hd (fun _ => k) (fun h => absurd rfl h)
theorem A.if_eq1 {off : Int} (hd : decode (mcode y) pc = .ok (.ifCond .eq off, 3)) {tgt : Nat} (ht : (pc : Int) + off = (tgt : Int)) (k : A d y (pc + 3) ls st G kc ks Q) : A d y pc ls (.int 1 :: st) G kc ks Q := A.if_eq tgt ht hd (fun h => absurd h (by decide)) (fun _ => k)
theorem A.if_ne0 {off : Int} (hd : decode (mcode y) pc = .ok (.ifCond .ne off, 3)) {tgt : Nat} (ht : (pc : Int) + off = (tgt : Int)) (k : A d y (pc + 3) ls st G kc ks Q) : A d y pc ls (.int 0 :: st) G kc ks Q := A.if_ne tgt ht hd (fun h => absurd rfl h) (fun _ => k)
theorem A.if_ne1 {off : Int} (tgt : Nat) (ht : (pc : Int) + off = (tgt : Int)) (hd : decode (mcode y) pc = .ok (.ifCond .ne off, 3)) (k : A d y tgt ls st G kc ks Q) : A d y pc ls (.int 1 :: st) G kc ks Q := A.if_ne tgt ht hd (fun _ => k) (fun h => absurd h (by decide))
theorem A.callS0 {idx d1 : Nat} {y' : MI} {ls' : List (Option Value)} (hl : LkS (mcls y) idx y' 0) (hlen : (entl []).length ≤ y'.2.2.1) (hw : (st.map fun v => v.category).sum ≤ 8) (hdd : d1 + 1 ≤ d) (hd : decode (mcode y) pc = .ok (.invokestatic idx, 3)) (he : ent y'.2.2.1 [] = ls') (kk : A d1 y' 0 ls' [] G 0 0 (fun v G' => A d y (pc + 3) ls (psh v st) G' kc ks Q)) : A d y pc ls (st) G kc ks Q := by
  subst he
  exact A.callS (As := []) hl rfl hlen hw hdd (by omega) (by omega) hd kk
theorem A.callV0 {o idx ci d1 : Nat} {y' : MI} {ls' : List (Option Value)} (hl : LkV (mcls y) idx y' ci 0) (ha : ∃ fs, G o = some (oB ci fs)) (hlen : (entl [.ref o]).length ≤ y'.2.2.1) (hw : (st.map fun v => v.category).sum ≤ 8) (hdd : d1 + 1 ≤ d) (hd : decode (mcode y) pc = .ok (.invokevirtual idx, 3)) (he : ent y'.2.2.1 [.ref o] = ls') (kk : A d1 y' 0 ls' [] G 0 0 (fun v G' => A d y (pc + 3) ls (psh v st) G' kc ks Q)) : A d y pc ls (.ref o :: st) G kc ks Q := by
  subst he
  obtain ⟨fs, ha⟩ := ha
  exact A.callV (As := []) hl ha rfl hlen hw hdd (by omega) (by omega) hd kk
theorem A.callVa0 {o idx ci d1 kc1 ks1 kc2 ks2 : Nat} {y' : MI} {ls' : List (Option Value)} (hl : LkV (mcls y) idx y' ci 0) (ha : ∃ fs, G o = some (oB ci fs)) (hlen : (entl [.ref o]).length ≤ y'.2.2.1) (hw : (st.map fun v => v.category).sum ≤ 8) (hdd : d1 + 1 ≤ d) (hd : decode (mcode y) pc = .ok (.invokevirtual idx, 3)) (hkc : kc1 + kc2 ≤ kc) (hks : ks1 + ks2 ≤ ks) (he : ent y'.2.2.1 [.ref o] = ls') (kk : A d1 y' 0 ls' [] G kc1 ks1 (fun v G' => A d y (pc + 3) ls (psh v st) G' kc2 ks2 Q)) : A d y pc ls (.ref o :: st) G kc ks Q := by
  subst he
  obtain ⟨fs, ha⟩ := ha
  exact A.callV (As := []) hl ha rfl hlen hw hdd hkc hks hd kk
theorem A.callIa0 {o idx d1 kc1 ks1 kc2 ks2 : Nat} {y' : MI} {ls' : List (Option Value)} (hl : LkI (mcls y) idx y' 0) (hlen : (entl [.ref o]).length ≤ y'.2.2.1) (hw : (st.map fun v => v.category).sum ≤ 8) (hdd : d1 + 1 ≤ d) (hd : decode (mcode y) pc = .ok (.invokespecial idx, 3)) (hkc : kc1 + kc2 ≤ kc) (hks : ks1 + ks2 ≤ ks) (he : ent y'.2.2.1 [.ref o] = ls') (kk : A d1 y' 0 ls' [] G kc1 ks1 (fun v G' => A d y (pc + 3) ls (psh v st) G' kc2 ks2 Q)) : A d y pc ls (.ref o :: st) G kc ks Q := by
  subst he
  exact A.callI (As := []) hl rfl hlen hw hdd hkc hks hd kk
theorem A.callS1 {va : Value} {idx d1 : Nat} {y' : MI} {ls' : List (Option Value)} (hl : LkS (mcls y) idx y' 1) (hlen : (entl [va]).length ≤ y'.2.2.1) (hw : (st.map fun v => v.category).sum ≤ 8) (hdd : d1 + 1 ≤ d) (hd : decode (mcode y) pc = .ok (.invokestatic idx, 3)) (he : ent y'.2.2.1 [va] = ls') (kk : A d1 y' 0 ls' [] G 0 0 (fun v G' => A d y (pc + 3) ls (psh v st) G' kc ks Q)) : A d y pc ls (va :: st) G kc ks Q := by
  subst he
  exact A.callS (As := [va]) hl rfl hlen hw hdd (by omega) (by omega) hd kk
theorem A.callV1 {va : Value} {o idx ci d1 : Nat} {y' : MI} {ls' : List (Option Value)} (hl : LkV (mcls y) idx y' ci 1) (ha : ∃ fs, G o = some (oB ci fs)) (hlen : (entl [.ref o, va]).length ≤ y'.2.2.1) (hw : (st.map fun v => v.category).sum ≤ 8) (hdd : d1 + 1 ≤ d) (hd : decode (mcode y) pc = .ok (.invokevirtual idx, 3)) (he : ent y'.2.2.1 [.ref o, va] = ls') (kk : A d1 y' 0 ls' [] G 0 0 (fun v G' => A d y (pc + 3) ls (psh v st) G' kc ks Q)) : A d y pc ls (va :: .ref o :: st) G kc ks Q := by
  subst he
  obtain ⟨fs, ha⟩ := ha
  exact A.callV (As := [va]) hl ha rfl hlen hw hdd (by omega) (by omega) hd kk
theorem A.callVa1 {va : Value} {o idx ci d1 kc1 ks1 kc2 ks2 : Nat} {y' : MI} {ls' : List (Option Value)} (hl : LkV (mcls y) idx y' ci 1) (ha : ∃ fs, G o = some (oB ci fs)) (hlen : (entl [.ref o, va]).length ≤ y'.2.2.1) (hw : (st.map fun v => v.category).sum ≤ 8) (hdd : d1 + 1 ≤ d) (hd : decode (mcode y) pc = .ok (.invokevirtual idx, 3)) (hkc : kc1 + kc2 ≤ kc) (hks : ks1 + ks2 ≤ ks) (he : ent y'.2.2.1 [.ref o, va] = ls') (kk : A d1 y' 0 ls' [] G kc1 ks1 (fun v G' => A d y (pc + 3) ls (psh v st) G' kc2 ks2 Q)) : A d y pc ls (va :: .ref o :: st) G kc ks Q := by
  subst he
  obtain ⟨fs, ha⟩ := ha
  exact A.callV (As := [va]) hl ha rfl hlen hw hdd hkc hks hd kk
theorem A.callIa1 {va : Value} {o idx d1 kc1 ks1 kc2 ks2 : Nat} {y' : MI} {ls' : List (Option Value)} (hl : LkI (mcls y) idx y' 1) (hlen : (entl [.ref o, va]).length ≤ y'.2.2.1) (hw : (st.map fun v => v.category).sum ≤ 8) (hdd : d1 + 1 ≤ d) (hd : decode (mcode y) pc = .ok (.invokespecial idx, 3)) (hkc : kc1 + kc2 ≤ kc) (hks : ks1 + ks2 ≤ ks) (he : ent y'.2.2.1 [.ref o, va] = ls') (kk : A d1 y' 0 ls' [] G kc1 ks1 (fun v G' => A d y (pc + 3) ls (psh v st) G' kc2 ks2 Q)) : A d y pc ls (va :: .ref o :: st) G kc ks Q := by
  subst he
  exact A.callI (As := [va]) hl rfl hlen hw hdd hkc hks hd kk
theorem A.callS2 {va vb : Value} {idx d1 : Nat} {y' : MI} {ls' : List (Option Value)} (hl : LkS (mcls y) idx y' 2) (hlen : (entl [va, vb]).length ≤ y'.2.2.1) (hw : (st.map fun v => v.category).sum ≤ 8) (hdd : d1 + 1 ≤ d) (hd : decode (mcode y) pc = .ok (.invokestatic idx, 3)) (he : ent y'.2.2.1 [va, vb] = ls') (kk : A d1 y' 0 ls' [] G 0 0 (fun v G' => A d y (pc + 3) ls (psh v st) G' kc ks Q)) : A d y pc ls (vb :: va :: st) G kc ks Q := by
  subst he
  exact A.callS (As := [va, vb]) hl rfl hlen hw hdd (by omega) (by omega) hd kk
theorem A.callV2 {va vb : Value} {o idx ci d1 : Nat} {y' : MI} {ls' : List (Option Value)} (hl : LkV (mcls y) idx y' ci 2) (ha : ∃ fs, G o = some (oB ci fs)) (hlen : (entl [.ref o, va, vb]).length ≤ y'.2.2.1) (hw : (st.map fun v => v.category).sum ≤ 8) (hdd : d1 + 1 ≤ d) (hd : decode (mcode y) pc = .ok (.invokevirtual idx, 3)) (he : ent y'.2.2.1 [.ref o, va, vb] = ls') (kk : A d1 y' 0 ls' [] G 0 0 (fun v G' => A d y (pc + 3) ls (psh v st) G' kc ks Q)) : A d y pc ls (vb :: va :: .ref o :: st) G kc ks Q := by
  subst he
  obtain ⟨fs, ha⟩ := ha
  exact A.callV (As := [va, vb]) hl ha rfl hlen hw hdd (by omega) (by omega) hd kk
theorem A.callVa2 {va vb : Value} {o idx ci d1 kc1 ks1 kc2 ks2 : Nat} {y' : MI} {ls' : List (Option Value)} (hl : LkV (mcls y) idx y' ci 2) (ha : ∃ fs, G o = some (oB ci fs)) (hlen : (entl [.ref o, va, vb]).length ≤ y'.2.2.1) (hw : (st.map fun v => v.category).sum ≤ 8) (hdd : d1 + 1 ≤ d) (hd : decode (mcode y) pc = .ok (.invokevirtual idx, 3)) (hkc : kc1 + kc2 ≤ kc) (hks : ks1 + ks2 ≤ ks) (he : ent y'.2.2.1 [.ref o, va, vb] = ls') (kk : A d1 y' 0 ls' [] G kc1 ks1 (fun v G' => A d y (pc + 3) ls (psh v st) G' kc2 ks2 Q)) : A d y pc ls (vb :: va :: .ref o :: st) G kc ks Q := by
  subst he
  obtain ⟨fs, ha⟩ := ha
  exact A.callV (As := [va, vb]) hl ha rfl hlen hw hdd hkc hks hd kk
theorem A.callIa2 {va vb : Value} {o idx d1 kc1 ks1 kc2 ks2 : Nat} {y' : MI} {ls' : List (Option Value)} (hl : LkI (mcls y) idx y' 2) (hlen : (entl [.ref o, va, vb]).length ≤ y'.2.2.1) (hw : (st.map fun v => v.category).sum ≤ 8) (hdd : d1 + 1 ≤ d) (hd : decode (mcode y) pc = .ok (.invokespecial idx, 3)) (hkc : kc1 + kc2 ≤ kc) (hks : ks1 + ks2 ≤ ks) (he : ent y'.2.2.1 [.ref o, va, vb] = ls') (kk : A d1 y' 0 ls' [] G kc1 ks1 (fun v G' => A d y (pc + 3) ls (psh v st) G' kc2 ks2 Q)) : A d y pc ls (vb :: va :: .ref o :: st) G kc ks Q := by
  subst he
  exact A.callI (As := [va, vb]) hl rfl hlen hw hdd hkc hks hd kk
theorem A.callSa2 {va vb : Value} {idx d1 kc1 ks1 kc2 ks2 : Nat} {y' : MI} {ls' : List (Option Value)} (hl : LkS (mcls y) idx y' 2) (hlen : (entl [va, vb]).length ≤ y'.2.2.1) (hw : (st.map fun v => v.category).sum ≤ 8) (hdd : d1 + 1 ≤ d) (hd : decode (mcode y) pc = .ok (.invokestatic idx, 3)) (hkc : kc1 + kc2 ≤ kc) (hks : ks1 + ks2 ≤ ks) (he : ent y'.2.2.1 [va, vb] = ls') (kk : A d1 y' 0 ls' [] G kc1 ks1 (fun v G' => A d y (pc + 3) ls (psh v st) G' kc2 ks2 Q)) : A d y pc ls (vb :: va :: st) G kc ks Q := by
  subst he
  exact A.callS (As := [va, vb]) hl rfl hlen hw hdd hkc hks hd kk
theorem A.callS3 {va vb vc : Value} {idx d1 : Nat} {y' : MI} {ls' : List (Option Value)} (hl : LkS (mcls y) idx y' 3) (hlen : (entl [va, vb, vc]).length ≤ y'.2.2.1) (hw : (st.map fun v => v.category).sum ≤ 8) (hdd : d1 + 1 ≤ d) (hd : decode (mcode y) pc = .ok (.invokestatic idx, 3)) (he : ent y'.2.2.1 [va, vb, vc] = ls') (kk : A d1 y' 0 ls' [] G 0 0 (fun v G' => A d y (pc + 3) ls (psh v st) G' kc ks Q)) : A d y pc ls (vc :: vb :: va :: st) G kc ks Q := by
  subst he
  exact A.callS (As := [va, vb, vc]) hl rfl hlen hw hdd (by omega) (by omega) hd kk
theorem A.callV3 {va vb vc : Value} {o idx ci d1 : Nat} {y' : MI} {ls' : List (Option Value)} (hl : LkV (mcls y) idx y' ci 3) (ha : ∃ fs, G o = some (oB ci fs)) (hlen : (entl [.ref o, va, vb, vc]).length ≤ y'.2.2.1) (hw : (st.map fun v => v.category).sum ≤ 8) (hdd : d1 + 1 ≤ d) (hd : decode (mcode y) pc = .ok (.invokevirtual idx, 3)) (he : ent y'.2.2.1 [.ref o, va, vb, vc] = ls') (kk : A d1 y' 0 ls' [] G 0 0 (fun v G' => A d y (pc + 3) ls (psh v st) G' kc ks Q)) : A d y pc ls (vc :: vb :: va :: .ref o :: st) G kc ks Q := by
  subst he
  obtain ⟨fs, ha⟩ := ha
  exact A.callV (As := [va, vb, vc]) hl ha rfl hlen hw hdd (by omega) (by omega) hd kk
theorem A.callVa3 {va vb vc : Value} {o idx ci d1 kc1 ks1 kc2 ks2 : Nat} {y' : MI} {ls' : List (Option Value)} (hl : LkV (mcls y) idx y' ci 3) (ha : ∃ fs, G o = some (oB ci fs)) (hlen : (entl [.ref o, va, vb, vc]).length ≤ y'.2.2.1) (hw : (st.map fun v => v.category).sum ≤ 8) (hdd : d1 + 1 ≤ d) (hd : decode (mcode y) pc = .ok (.invokevirtual idx, 3)) (hkc : kc1 + kc2 ≤ kc) (hks : ks1 + ks2 ≤ ks) (he : ent y'.2.2.1 [.ref o, va, vb, vc] = ls') (kk : A d1 y' 0 ls' [] G kc1 ks1 (fun v G' => A d y (pc + 3) ls (psh v st) G' kc2 ks2 Q)) : A d y pc ls (vc :: vb :: va :: .ref o :: st) G kc ks Q := by
  subst he
  obtain ⟨fs, ha⟩ := ha
  exact A.callV (As := [va, vb, vc]) hl ha rfl hlen hw hdd hkc hks hd kk
theorem A.callIa3 {va vb vc : Value} {o idx d1 kc1 ks1 kc2 ks2 : Nat} {y' : MI} {ls' : List (Option Value)} (hl : LkI (mcls y) idx y' 3) (hlen : (entl [.ref o, va, vb, vc]).length ≤ y'.2.2.1) (hw : (st.map fun v => v.category).sum ≤ 8) (hdd : d1 + 1 ≤ d) (hd : decode (mcode y) pc = .ok (.invokespecial idx, 3)) (hkc : kc1 + kc2 ≤ kc) (hks : ks1 + ks2 ≤ ks) (he : ent y'.2.2.1 [.ref o, va, vb, vc] = ls') (kk : A d1 y' 0 ls' [] G kc1 ks1 (fun v G' => A d y (pc + 3) ls (psh v st) G' kc2 ks2 Q)) : A d y pc ls (vc :: vb :: va :: .ref o :: st) G kc ks Q := by
  subst he
  exact A.callI (As := [va, vb, vc]) hl rfl hlen hw hdd hkc hks hd kk
theorem A.callSa3 {va vb vc : Value} {idx d1 kc1 ks1 kc2 ks2 : Nat} {y' : MI} {ls' : List (Option Value)} (hl : LkS (mcls y) idx y' 3) (hlen : (entl [va, vb, vc]).length ≤ y'.2.2.1) (hw : (st.map fun v => v.category).sum ≤ 8) (hdd : d1 + 1 ≤ d) (hd : decode (mcode y) pc = .ok (.invokestatic idx, 3)) (hkc : kc1 + kc2 ≤ kc) (hks : ks1 + ks2 ≤ ks) (he : ent y'.2.2.1 [va, vb, vc] = ls') (kk : A d1 y' 0 ls' [] G kc1 ks1 (fun v G' => A d y (pc + 3) ls (psh v st) G' kc2 ks2 Q)) : A d y pc ls (vc :: vb :: va :: st) G kc ks Q := by
  subst he
  exact A.callS (As := [va, vb, vc]) hl rfl hlen hw hdd hkc hks hd kk
theorem A.callS4 {va vb vc vd : Value} {idx d1 : Nat} {y' : MI} {ls' : List (Option Value)} (hl : LkS (mcls y) idx y' 4) (hlen : (entl [va, vb, vc, vd]).length ≤ y'.2.2.1) (hw : (st.map fun v => v.category).sum ≤ 8) (hdd : d1 + 1 ≤ d) (hd : decode (mcode y) pc = .ok (.invokestatic idx, 3)) (he : ent y'.2.2.1 [va, vb, vc, vd] = ls') (kk : A d1 y' 0 ls' [] G 0 0 (fun v G' => A d y (pc + 3) ls (psh v st) G' kc ks Q)) : A d y pc ls (vd :: vc :: vb :: va :: st) G kc ks Q := by
  subst he
  exact A.callS (As := [va, vb, vc, vd]) hl rfl hlen hw hdd (by omega) (by omega) hd kk
theorem A.callV4 {va vb vc vd : Value} {o idx ci d1 : Nat} {y' : MI} {ls' : List (Option Value)} (hl : LkV (mcls y) idx y' ci 4) (ha : ∃ fs, G o = some (oB ci fs)) (hlen : (entl [.ref o, va, vb, vc, vd]).length ≤ y'.2.2.1) (hw : (st.map fun v => v.category).sum ≤ 8) (hdd : d1 + 1 ≤ d) (hd : decode (mcode y) pc = .ok (.invokevirtual idx, 3)) (he : ent y'.2.2.1 [.ref o, va, vb, vc, vd] = ls') (kk : A d1 y' 0 ls' [] G 0 0 (fun v G' => A d y (pc + 3) ls (psh v st) G' kc ks Q)) : A d y pc ls (vd :: vc :: vb :: va :: .ref o :: st) G kc ks Q := by
  subst he
  obtain ⟨fs, ha⟩ := ha
  exact A.callV (As := [va, vb, vc, vd]) hl ha rfl hlen hw hdd (by omega) (by omega) hd kk
theorem A.callVa4 {va vb vc vd : Value} {o idx ci d1 kc1 ks1 kc2 ks2 : Nat} {y' : MI} {ls' : List (Option Value)} (hl : LkV (mcls y) idx y' ci 4) (ha : ∃ fs, G o = some (oB ci fs)) (hlen : (entl [.ref o, va, vb, vc, vd]).length ≤ y'.2.2.1) (hw : (st.map fun v => v.category).sum ≤ 8) (hdd : d1 + 1 ≤ d) (hd : decode (mcode y) pc = .ok (.invokevirtual idx, 3)) (hkc : kc1 + kc2 ≤ kc) (hks : ks1 + ks2 ≤ ks) (he : ent y'.2.2.1 [.ref o, va, vb, vc, vd] = ls') (kk : A d1 y' 0 ls' [] G kc1 ks1 (fun v G' => A d y (pc + 3) ls (psh v st) G' kc2 ks2 Q)) : A d y pc ls (vd :: vc :: vb :: va :: .ref o :: st) G kc ks Q := by
  subst he
  obtain ⟨fs, ha⟩ := ha
  exact A.callV (As := [va, vb, vc, vd]) hl ha rfl hlen hw hdd hkc hks hd kk
theorem A.callIa4 {va vb vc vd : Value} {o idx d1 kc1 ks1 kc2 ks2 : Nat} {y' : MI} {ls' : List (Option Value)} (hl : LkI (mcls y) idx y' 4) (hlen : (entl [.ref o, va, vb, vc, vd]).length ≤ y'.2.2.1) (hw : (st.map fun v => v.category).sum ≤ 8) (hdd : d1 + 1 ≤ d) (hd : decode (mcode y) pc = .ok (.invokespecial idx, 3)) (hkc : kc1 + kc2 ≤ kc) (hks : ks1 + ks2 ≤ ks) (he : ent y'.2.2.1 [.ref o, va, vb, vc, vd] = ls') (kk : A d1 y' 0 ls' [] G kc1 ks1 (fun v G' => A d y (pc + 3) ls (psh v st) G' kc2 ks2 Q)) : A d y pc ls (vd :: vc :: vb :: va :: .ref o :: st) G kc ks Q := by
  subst he
  exact A.callI (As := [va, vb, vc, vd]) hl rfl hlen hw hdd hkc hks hd kk
theorem A.callS5 {va vb vc vd ve : Value} {idx d1 : Nat} {y' : MI} {ls' : List (Option Value)} (hl : LkS (mcls y) idx y' 5) (hlen : (entl [va, vb, vc, vd, ve]).length ≤ y'.2.2.1) (hw : (st.map fun v => v.category).sum ≤ 8) (hdd : d1 + 1 ≤ d) (hd : decode (mcode y) pc = .ok (.invokestatic idx, 3)) (he : ent y'.2.2.1 [va, vb, vc, vd, ve] = ls') (kk : A d1 y' 0 ls' [] G 0 0 (fun v G' => A d y (pc + 3) ls (psh v st) G' kc ks Q)) : A d y pc ls (ve :: vd :: vc :: vb :: va :: st) G kc ks Q := by
  subst he
  exact A.callS (As := [va, vb, vc, vd, ve]) hl rfl hlen hw hdd (by omega) (by omega) hd kk
theorem A.callV5 {va vb vc vd ve : Value} {o idx ci d1 : Nat} {y' : MI} {ls' : List (Option Value)} (hl : LkV (mcls y) idx y' ci 5) (ha : ∃ fs, G o = some (oB ci fs)) (hlen : (entl [.ref o, va, vb, vc, vd, ve]).length ≤ y'.2.2.1) (hw : (st.map fun v => v.category).sum ≤ 8) (hdd : d1 + 1 ≤ d) (hd : decode (mcode y) pc = .ok (.invokevirtual idx, 3)) (he : ent y'.2.2.1 [.ref o, va, vb, vc, vd, ve] = ls') (kk : A d1 y' 0 ls' [] G 0 0 (fun v G' => A d y (pc + 3) ls (psh v st) G' kc ks Q)) : A d y pc ls (ve :: vd :: vc :: vb :: va :: .ref o :: st) G kc ks Q := by
  subst he
  obtain ⟨fs, ha⟩ := ha
  exact A.callV (As := [va, vb, vc, vd, ve]) hl ha rfl hlen hw hdd (by omega) (by omega) hd kk
theorem A.callVa5 {va vb vc vd ve : Value} {o idx ci d1 kc1 ks1 kc2 ks2 : Nat} {y' : MI} {ls' : List (Option Value)} (hl : LkV (mcls y) idx y' ci 5) (ha : ∃ fs, G o = some (oB ci fs)) (hlen : (entl [.ref o, va, vb, vc, vd, ve]).length ≤ y'.2.2.1) (hw : (st.map fun v => v.category).sum ≤ 8) (hdd : d1 + 1 ≤ d) (hd : decode (mcode y) pc = .ok (.invokevirtual idx, 3)) (hkc : kc1 + kc2 ≤ kc) (hks : ks1 + ks2 ≤ ks) (he : ent y'.2.2.1 [.ref o, va, vb, vc, vd, ve] = ls') (kk : A d1 y' 0 ls' [] G kc1 ks1 (fun v G' => A d y (pc + 3) ls (psh v st) G' kc2 ks2 Q)) : A d y pc ls (ve :: vd :: vc :: vb :: va :: .ref o :: st) G kc ks Q := by
  subst he
  obtain ⟨fs, ha⟩ := ha
  exact A.callV (As := [va, vb, vc, vd, ve]) hl ha rfl hlen hw hdd hkc hks hd kk
theorem A.callIa5 {va vb vc vd ve : Value} {o idx d1 kc1 ks1 kc2 ks2 : Nat} {y' : MI} {ls' : List (Option Value)} (hl : LkI (mcls y) idx y' 5) (hlen : (entl [.ref o, va, vb, vc, vd, ve]).length ≤ y'.2.2.1) (hw : (st.map fun v => v.category).sum ≤ 8) (hdd : d1 + 1 ≤ d) (hd : decode (mcode y) pc = .ok (.invokespecial idx, 3)) (hkc : kc1 + kc2 ≤ kc) (hks : ks1 + ks2 ≤ ks) (he : ent y'.2.2.1 [.ref o, va, vb, vc, vd, ve] = ls') (kk : A d1 y' 0 ls' [] G kc1 ks1 (fun v G' => A d y (pc + 3) ls (psh v st) G' kc2 ks2 Q)) : A d y pc ls (ve :: vd :: vc :: vb :: va :: .ref o :: st) G kc ks Q := by
  subst he
  exact A.callI (As := [va, vb, vc, vd, ve]) hl rfl hlen hw hdd hkc hks hd kk
theorem A.cast1 {idx ci a N : Nat} {C : String} {T : u_T} (hd : decode (mcode y) pc = .ok (.checkcast idx, 3)) (hl : Cond.classLink (mcls y) idx C ∈ gt) (hc : classes[ci]? = some (C, T, N)) (ha : ∃ fs, G a = some (oB ci fs)) (kk : A d y (pc + 3) ls (.ref a :: st) G kc ks Q) : A d y pc ls (.ref a :: st) G kc ks Q := by
  obtain ⟨fs, ha⟩ := ha
  exact A.cast hd hl hc ha kk
/-- a switch from 0 on -/
theorem A.tsw {x : Int32} {dflt hi : Int} {offs : Array Int} {len : Nat} (tg : List Nat) (dt : Nat) (hd : decode (mcode y) pc = .ok (.tableswitch dflt 0 hi offs, len)) (ho : offs.toList.map (fun o => (pc : Int) + o) = tg.map (fun t : Nat => (t : Int))) (hdt : (pc : Int) + dflt = (dt : Int)) (hh : hi + 1 = (tg.length : Int))
    (k : ∀ (i t : Nat), tg[i]? = some t → x = nI i → A d y t ls st G kc ks Q) (k0 : (x < 0 ∨ nI tg.length ≤ x) → A d y dt ls st G kc ks Q) (hs : tg.length < 1000) : A d y pc ls (.int x :: st) G kc ks Q := by
  have hN : (nI tg.length).toInt = (tg.length : Int) := nI_toInt (by omega)
  by_cases h : x < 0 ∨ nI tg.length ≤ x
  · refine A.tableOut dt ?_ hdt hd (k0 h)
    rcases h with h | h
    · left; rw [Int32.lt_iff_toInt_lt] at h; exact h
    · right; rw [Int32.le_iff_toInt_le, hN] at h; omega
  · have h1 : ¬ x < 0 := fun z => h (Or.inl z)
    have h2 : ¬ nI tg.length ≤ x := fun z => h (Or.inr z)
    rw [Int32.lt_iff_toInt_lt] at h1
    rw [Int32.le_iff_toInt_le, hN] at h2
    have h1 : ¬ x.toInt < 0 := h1
    obtain ⟨t, ht⟩ : ∃ t, tg[x.toInt.toNat]? = some t := by
      have : x.toInt.toNat < tg.length := by omega
      exact ⟨tg[x.toInt.toNat], List.getElem?_eq_getElem this⟩
    have e1 := congrArg (fun l => l[x.toInt.toNat]?) ho
    simp only [List.getElem?_map, ht, Option.map_some] at e1
    cases hof : offs.toList[x.toInt.toNat]? with
    | none => rw [hof] at e1; cases e1
    | some off =>
      rw [hof] at e1
      refine A.tableIn (off := off) t h1 (by omega) ?_ (Option.some.inj e1) hd (k x.toInt.toNat t ht ?_)
      · rw [show x.toInt - 0 = x.toInt by omega, ← Array.getElem?_toList]; exact hof
      · have hx2 : x.toInt < 1000 := by omega
        apply Int32.toInt_inj.mp
        rw [nI_toInt (by omega)]
        omega
end RULES2
