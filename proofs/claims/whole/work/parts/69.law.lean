/-! a turn of the law, for each operation -/
section LAW
variable {G : AHp} {M S : MS} {C : Nat → Int64} {np kc ks i L : Nat} {xs : Nat → Int32} {Q : Option Value → AHp → Prop}
theorem ixk {i k : Nat} {c : Int32} (hc : c = nI k) (h : i + k < 1000000) : (nI i + c).toInt = ((i + k : Nat) : Int) := by rw [hc, nI_add]; exact ixn h
/-- how a turn goes on -/
def GO (kc ks i L : Nat) (xs : Nat → Int32) (Q : Option Value → AHp → Prop) : Prop := ∀ (G : AHp) (M S : MS) (C : Nat → Int64) (np : Nat), CH G M np → MH G M S C → INV M np → own M np → G 2 = some (aI L xs) → A 17 M_lw_law 832 [some (.ref 2), some (.ref 20), some (.ref 100), some (.int (nI i))] [] G kc ks Q
theorem turn_coins (hC : CH G M np) (hM : MH G M S C) (hI : INV M np) (ho : own M np) (h2 : G 2 = some (aI L xs)) (hi : i + 5 ≤ L) (hL : L ≤ 2560) (h : GO kc ks i L xs Q) : A 17 M_lw_law 136 [some (.ref 2), some (.ref 20), some (.ref 100), some (.int (nI i))] [] G (kc + 8) (ks + 110) Q := by
  have hr := hC.root.1
  have op := @op_coins M G np (xs (i + 1)) (xs (i + 2)) hC hI ho
  obtain ⟨r, M1, np1, hI1, ho1, oa, om⟩ := op
  refine A.aload_k 1 rfl rfl rfl d_lw_law_136 ?_
  refine A.aload_k 0 rfl rfl rfl d_lw_law_137 ?_
  refine A.iload_k 3 rfl rfl d_lw_law_138 ?_
  refine A.iconst (v := 1) rfl d_lw_law_139 ?_
  refine A.iadd d_lw_law_140 ?_
  apply A.iaload (j := i + 1) d_lw_law_141
  · repeat first | assumption | exact up_s | refine up_e (by first | decide | omega) ?_
  · exact ixk (k := 1) rfl (by omega)
  · omega
  refine A.aload_k 0 rfl rfl rfl d_lw_law_142 ?_
  refine A.iload_k 3 rfl rfl d_lw_law_143 ?_
  refine A.iconst (v := 2) rfl d_lw_law_144 ?_
  refine A.iadd d_lw_law_145 ?_
  apply A.iaload (j := i + 2) d_lw_law_146
  · repeat first | assumption | exact up_s | refine up_e (by first | decide | omega) ?_
  · exact ixk (k := 2) rfl (by omega)
  · omega
  refine A.callV2 s_lw_13 ?_ (Nat.le_of_ble_eq_true rfl) (Nat.le_of_ble_eq_true rfl) (Nat.le_of_ble_eq_true rfl) d_lw_law_147 rfl (oa _ (fun G1 hC1 hF1 => ?_))
  · apply Exists.intro
    repeat first | assumption | exact up_s | refine up_e (by first | decide | omega) ?_
  dsimp only [psh]
  have hM1 := hM.frC hF1
  have hO1 := hM1.1
  have h21 : G1 2 = some (aI L xs) := (hF1 2 (Or.inl rfl)).trans h2
  refine A.aload_k 2 rfl rfl rfl d_lw_law_150 ?_
  refine A.aload_k 0 rfl rfl rfl d_lw_law_151 ?_
  refine A.iload_k 3 rfl rfl d_lw_law_152 ?_
  refine A.iconst (v := 1) rfl d_lw_law_153 ?_
  refine A.iadd d_lw_law_154 ?_
  apply A.iaload (j := i + 1) d_lw_law_155
  · repeat first | assumption | exact up_s | refine up_e (by first | decide | omega) ?_
  · exact ixk (k := 1) rfl (by omega)
  · omega
  refine A.aload_k 0 rfl rfl rfl d_lw_law_156 ?_
  refine A.iload_k 3 rfl rfl d_lw_law_157 ?_
  refine A.iconst (v := 2) rfl d_lw_law_158 ?_
  refine A.iadd d_lw_law_159 ?_
  apply A.iaload (j := i + 2) d_lw_law_160
  · repeat first | assumption | exact up_s | refine up_e (by first | decide | omega) ?_
  · exact ixk (k := 2) rfl (by omega)
  · omega
  refine A.callV2 s_lw_17 ?_ (Nat.le_of_ble_eq_true rfl) (Nat.le_of_ble_eq_true rfl) (Nat.le_of_ble_eq_true rfl) d_lw_law_161 rfl (om G1 S C hM1 _ (fun G2 S2 C2 hM2 hF2 => ?_))
  · apply Exists.intro
    repeat first | assumption | exact up_s | refine up_e (by first | decide | omega) ?_
  dsimp only [psh]
  refine A.icmp_eq 832 (by decide) d_lw_law_164 (fun c164 => ?_) (fun c164 => ?_)
  · refine A.room (by omega) (by omega) (h G2 M1 S2 C2 np1 (hC1.frM hF2 hI1.1.2.1 (fun p _ => hI1.1.zle p)) hM2 hI1 ho1 ((hF2 2 (by omega)).trans h21))
  · exact absurd rfl c164
theorem turn_plot (hC : CH G M np) (hM : MH G M S C) (hI : INV M np) (ho : own M np) (h2 : G 2 = some (aI L xs)) (hi : i + 5 ≤ L) (hL : L ≤ 2560) (h : GO kc ks i L xs Q) : A 17 M_lw_law 169 [some (.ref 2), some (.ref 20), some (.ref 100), some (.int (nI i))] [] G (kc + 8) (ks + 110) Q := by
  have hr := hC.root.1
  have op := @op_plot M G np (xs (i + 1)) (xs (i + 2)) (xs (i + 3)) hC hI ho
  obtain ⟨r, M1, np1, hI1, ho1, oa, om⟩ := op
  refine A.aload_k 1 rfl rfl rfl d_lw_law_169 ?_
  refine A.aload_k 0 rfl rfl rfl d_lw_law_170 ?_
  refine A.iload_k 3 rfl rfl d_lw_law_171 ?_
  refine A.iconst (v := 1) rfl d_lw_law_172 ?_
  refine A.iadd d_lw_law_173 ?_
  apply A.iaload (j := i + 1) d_lw_law_174
  · repeat first | assumption | exact up_s | refine up_e (by first | decide | omega) ?_
  · exact ixk (k := 1) rfl (by omega)
  · omega
  refine A.aload_k 0 rfl rfl rfl d_lw_law_175 ?_
  refine A.iload_k 3 rfl rfl d_lw_law_176 ?_
  refine A.iconst (v := 2) rfl d_lw_law_177 ?_
  refine A.iadd d_lw_law_178 ?_
  apply A.iaload (j := i + 2) d_lw_law_179
  · repeat first | assumption | exact up_s | refine up_e (by first | decide | omega) ?_
  · exact ixk (k := 2) rfl (by omega)
  · omega
  refine A.aload_k 0 rfl rfl rfl d_lw_law_180 ?_
  refine A.iload_k 3 rfl rfl d_lw_law_181 ?_
  refine A.iconst (v := 3) rfl d_lw_law_182 ?_
  refine A.iadd d_lw_law_183 ?_
  apply A.iaload (j := i + 3) d_lw_law_184
  · repeat first | assumption | exact up_s | refine up_e (by first | decide | omega) ?_
  · exact ixk (k := 3) rfl (by omega)
  · omega
  refine A.callVa3 s_lw_18 ?_ (Nat.le_of_ble_eq_true rfl) (Nat.le_of_ble_eq_true rfl) (Nat.le_of_ble_eq_true rfl) d_lw_law_185 (kc1 := 8) (ks1 := 110) (kc2 := (kc + 0)) (ks2 := (ks + 0)) (by omega) (by omega) rfl (oa _ (fun G1 hC1 hF1 => ?_))
  · apply Exists.intro
    repeat first | assumption | exact up_s | refine up_e (by first | decide | omega) ?_
  dsimp only [psh]
  have hM1 := hM.frC hF1
  have hO1 := hM1.1
  have h21 : G1 2 = some (aI L xs) := (hF1 2 (Or.inl rfl)).trans h2
  refine A.aload_k 2 rfl rfl rfl d_lw_law_188 ?_
  refine A.aload_k 0 rfl rfl rfl d_lw_law_189 ?_
  refine A.iload_k 3 rfl rfl d_lw_law_190 ?_
  refine A.iconst (v := 1) rfl d_lw_law_191 ?_
  refine A.iadd d_lw_law_192 ?_
  apply A.iaload (j := i + 1) d_lw_law_193
  · repeat first | assumption | exact up_s | refine up_e (by first | decide | omega) ?_
  · exact ixk (k := 1) rfl (by omega)
  · omega
  refine A.aload_k 0 rfl rfl rfl d_lw_law_194 ?_
  refine A.iload_k 3 rfl rfl d_lw_law_195 ?_
  refine A.iconst (v := 2) rfl d_lw_law_196 ?_
  refine A.iadd d_lw_law_197 ?_
  apply A.iaload (j := i + 2) d_lw_law_198
  · repeat first | assumption | exact up_s | refine up_e (by first | decide | omega) ?_
  · exact ixk (k := 2) rfl (by omega)
  · omega
  refine A.aload_k 0 rfl rfl rfl d_lw_law_199 ?_
  refine A.iload_k 3 rfl rfl d_lw_law_200 ?_
  refine A.iconst (v := 3) rfl d_lw_law_201 ?_
  refine A.iadd d_lw_law_202 ?_
  apply A.iaload (j := i + 3) d_lw_law_203
  · repeat first | assumption | exact up_s | refine up_e (by first | decide | omega) ?_
  · exact ixk (k := 3) rfl (by omega)
  · omega
  refine A.callV3 s_lw_22 ?_ (Nat.le_of_ble_eq_true rfl) (Nat.le_of_ble_eq_true rfl) (Nat.le_of_ble_eq_true rfl) d_lw_law_204 rfl (om G1 S C hM1 _ (fun G2 S2 C2 hM2 hF2 => ?_))
  · apply Exists.intro
    repeat first | assumption | exact up_s | refine up_e (by first | decide | omega) ?_
  dsimp only [psh]
  refine A.icmp_eq 832 (by decide) d_lw_law_207 (fun c207 => ?_) (fun c207 => ?_)
  · refine A.room (by omega) (by omega) (h G2 M1 S2 C2 np1 (hC1.frM hF2 hI1.1.2.1 (fun p _ => hI1.1.zle p)) hM2 hI1 ho1 ((hF2 2 (by omega)).trans h21))
  · exact absurd rfl c207
theorem turn_lease (hC : CH G M np) (hM : MH G M S C) (hI : INV M np) (ho : own M np) (h2 : G 2 = some (aI L xs)) (hi : i + 5 ≤ L) (hL : L ≤ 2560) (h : GO kc ks i L xs Q) : A 17 M_lw_law 212 [some (.ref 2), some (.ref 20), some (.ref 100), some (.int (nI i))] [] G (kc + 8) (ks + 110) Q := by
  have hr := hC.root.1
  have op := @op_lease M G np (xs (i + 1)) (xs (i + 2)) (xs (i + 3)) (xs (i + 4)) hC hI ho
  obtain ⟨r, M1, np1, hI1, ho1, oa, om⟩ := op
  refine A.aload_k 1 rfl rfl rfl d_lw_law_212 ?_
  refine A.aload_k 0 rfl rfl rfl d_lw_law_213 ?_
  refine A.iload_k 3 rfl rfl d_lw_law_214 ?_
  refine A.iconst (v := 1) rfl d_lw_law_215 ?_
  refine A.iadd d_lw_law_216 ?_
  apply A.iaload (j := i + 1) d_lw_law_217
  · repeat first | assumption | exact up_s | refine up_e (by first | decide | omega) ?_
  · exact ixk (k := 1) rfl (by omega)
  · omega
  refine A.aload_k 0 rfl rfl rfl d_lw_law_218 ?_
  refine A.iload_k 3 rfl rfl d_lw_law_219 ?_
  refine A.iconst (v := 2) rfl d_lw_law_220 ?_
  refine A.iadd d_lw_law_221 ?_
  apply A.iaload (j := i + 2) d_lw_law_222
  · repeat first | assumption | exact up_s | refine up_e (by first | decide | omega) ?_
  · exact ixk (k := 2) rfl (by omega)
  · omega
  refine A.aload_k 0 rfl rfl rfl d_lw_law_223 ?_
  refine A.iload_k 3 rfl rfl d_lw_law_224 ?_
  refine A.iconst (v := 3) rfl d_lw_law_225 ?_
  refine A.iadd d_lw_law_226 ?_
  apply A.iaload (j := i + 3) d_lw_law_227
  · repeat first | assumption | exact up_s | refine up_e (by first | decide | omega) ?_
  · exact ixk (k := 3) rfl (by omega)
  · omega
  refine A.aload_k 0 rfl rfl rfl d_lw_law_228 ?_
  refine A.iload_k 3 rfl rfl d_lw_law_229 ?_
  refine A.iconst (v := 4) rfl d_lw_law_230 ?_
  refine A.iadd d_lw_law_231 ?_
  apply A.iaload (j := i + 4) d_lw_law_232
  · repeat first | assumption | exact up_s | refine up_e (by first | decide | omega) ?_
  · exact ixk (k := 4) rfl (by omega)
  · omega
  refine A.callV4 s_lw_23 ?_ (Nat.le_of_ble_eq_true rfl) (Nat.le_of_ble_eq_true rfl) (Nat.le_of_ble_eq_true rfl) d_lw_law_233 rfl (oa _ (fun G1 hC1 hF1 => ?_))
  · apply Exists.intro
    repeat first | assumption | exact up_s | refine up_e (by first | decide | omega) ?_
  dsimp only [psh]
  have hM1 := hM.frC hF1
  have hO1 := hM1.1
  have h21 : G1 2 = some (aI L xs) := (hF1 2 (Or.inl rfl)).trans h2
  refine A.aload_k 2 rfl rfl rfl d_lw_law_236 ?_
  refine A.aload_k 0 rfl rfl rfl d_lw_law_237 ?_
  refine A.iload_k 3 rfl rfl d_lw_law_238 ?_
  refine A.iconst (v := 1) rfl d_lw_law_239 ?_
  refine A.iadd d_lw_law_240 ?_
  apply A.iaload (j := i + 1) d_lw_law_241
  · repeat first | assumption | exact up_s | refine up_e (by first | decide | omega) ?_
  · exact ixk (k := 1) rfl (by omega)
  · omega
  refine A.aload_k 0 rfl rfl rfl d_lw_law_242 ?_
  refine A.iload_k 3 rfl rfl d_lw_law_243 ?_
  refine A.iconst (v := 2) rfl d_lw_law_244 ?_
  refine A.iadd d_lw_law_245 ?_
  apply A.iaload (j := i + 2) d_lw_law_246
  · repeat first | assumption | exact up_s | refine up_e (by first | decide | omega) ?_
  · exact ixk (k := 2) rfl (by omega)
  · omega
  refine A.aload_k 0 rfl rfl rfl d_lw_law_247 ?_
  refine A.iload_k 3 rfl rfl d_lw_law_248 ?_
  refine A.iconst (v := 3) rfl d_lw_law_249 ?_
  refine A.iadd d_lw_law_250 ?_
  apply A.iaload (j := i + 3) d_lw_law_251
  · repeat first | assumption | exact up_s | refine up_e (by first | decide | omega) ?_
  · exact ixk (k := 3) rfl (by omega)
  · omega
  refine A.aload_k 0 rfl rfl rfl d_lw_law_252 ?_
  refine A.iload_k 3 rfl rfl d_lw_law_253 ?_
  refine A.iconst (v := 4) rfl d_lw_law_254 ?_
  refine A.iadd d_lw_law_255 ?_
  apply A.iaload (j := i + 4) d_lw_law_256
  · repeat first | assumption | exact up_s | refine up_e (by first | decide | omega) ?_
  · exact ixk (k := 4) rfl (by omega)
  · omega
  refine A.callV4 s_lw_27 ?_ (Nat.le_of_ble_eq_true rfl) (Nat.le_of_ble_eq_true rfl) (Nat.le_of_ble_eq_true rfl) d_lw_law_257 rfl (om G1 S C hM1 _ (fun G2 S2 C2 hM2 hF2 => ?_))
  · apply Exists.intro
    repeat first | assumption | exact up_s | refine up_e (by first | decide | omega) ?_
  dsimp only [psh]
  refine A.icmp_eq 832 (by decide) d_lw_law_260 (fun c260 => ?_) (fun c260 => ?_)
  · refine A.room (by omega) (by omega) (h G2 M1 S2 C2 np1 (hC1.frM hF2 hI1.1.2.1 (fun p _ => hI1.1.zle p)) hM2 hI1 ho1 ((hF2 2 (by omega)).trans h21))
  · exact absurd rfl c260
theorem turn_rates (hC : CH G M np) (hM : MH G M S C) (hI : INV M np) (ho : own M np) (h2 : G 2 = some (aI L xs)) (hi : i + 5 ≤ L) (hL : L ≤ 2560) (h : GO kc ks i L xs Q) : A 17 M_lw_law 265 [some (.ref 2), some (.ref 20), some (.ref 100), some (.int (nI i))] [] G (kc + 8) (ks + 110) Q := by
  have hr := hC.root.1
  have op := @op_rates M G np (xs (i + 1)) (xs (i + 2)) (xs (i + 3)) hC hI ho
  obtain ⟨r, M1, np1, hI1, ho1, oa, om⟩ := op
  refine A.aload_k 1 rfl rfl rfl d_lw_law_265 ?_
  refine A.aload_k 0 rfl rfl rfl d_lw_law_266 ?_
  refine A.iload_k 3 rfl rfl d_lw_law_267 ?_
  refine A.iconst (v := 1) rfl d_lw_law_268 ?_
  refine A.iadd d_lw_law_269 ?_
  apply A.iaload (j := i + 1) d_lw_law_270
  · repeat first | assumption | exact up_s | refine up_e (by first | decide | omega) ?_
  · exact ixk (k := 1) rfl (by omega)
  · omega
  refine A.aload_k 0 rfl rfl rfl d_lw_law_271 ?_
  refine A.iload_k 3 rfl rfl d_lw_law_272 ?_
  refine A.iconst (v := 2) rfl d_lw_law_273 ?_
  refine A.iadd d_lw_law_274 ?_
  apply A.iaload (j := i + 2) d_lw_law_275
  · repeat first | assumption | exact up_s | refine up_e (by first | decide | omega) ?_
  · exact ixk (k := 2) rfl (by omega)
  · omega
  refine A.aload_k 0 rfl rfl rfl d_lw_law_276 ?_
  refine A.iload_k 3 rfl rfl d_lw_law_277 ?_
  refine A.iconst (v := 3) rfl d_lw_law_278 ?_
  refine A.iadd d_lw_law_279 ?_
  apply A.iaload (j := i + 3) d_lw_law_280
  · repeat first | assumption | exact up_s | refine up_e (by first | decide | omega) ?_
  · exact ixk (k := 3) rfl (by omega)
  · omega
  refine A.callV3 s_lw_28 ?_ (Nat.le_of_ble_eq_true rfl) (Nat.le_of_ble_eq_true rfl) (Nat.le_of_ble_eq_true rfl) d_lw_law_281 rfl (oa _ (fun G1 hC1 hF1 => ?_))
  · apply Exists.intro
    repeat first | assumption | exact up_s | refine up_e (by first | decide | omega) ?_
  dsimp only [psh]
  have hM1 := hM.frC hF1
  have hO1 := hM1.1
  have h21 : G1 2 = some (aI L xs) := (hF1 2 (Or.inl rfl)).trans h2
  refine A.aload_k 2 rfl rfl rfl d_lw_law_284 ?_
  refine A.aload_k 0 rfl rfl rfl d_lw_law_285 ?_
  refine A.iload_k 3 rfl rfl d_lw_law_286 ?_
  refine A.iconst (v := 1) rfl d_lw_law_287 ?_
  refine A.iadd d_lw_law_288 ?_
  apply A.iaload (j := i + 1) d_lw_law_289
  · repeat first | assumption | exact up_s | refine up_e (by first | decide | omega) ?_
  · exact ixk (k := 1) rfl (by omega)
  · omega
  refine A.aload_k 0 rfl rfl rfl d_lw_law_290 ?_
  refine A.iload_k 3 rfl rfl d_lw_law_291 ?_
  refine A.iconst (v := 2) rfl d_lw_law_292 ?_
  refine A.iadd d_lw_law_293 ?_
  apply A.iaload (j := i + 2) d_lw_law_294
  · repeat first | assumption | exact up_s | refine up_e (by first | decide | omega) ?_
  · exact ixk (k := 2) rfl (by omega)
  · omega
  refine A.aload_k 0 rfl rfl rfl d_lw_law_295 ?_
  refine A.iload_k 3 rfl rfl d_lw_law_296 ?_
  refine A.iconst (v := 3) rfl d_lw_law_297 ?_
  refine A.iadd d_lw_law_298 ?_
  apply A.iaload (j := i + 3) d_lw_law_299
  · repeat first | assumption | exact up_s | refine up_e (by first | decide | omega) ?_
  · exact ixk (k := 3) rfl (by omega)
  · omega
  refine A.callV3 s_lw_32 ?_ (Nat.le_of_ble_eq_true rfl) (Nat.le_of_ble_eq_true rfl) (Nat.le_of_ble_eq_true rfl) d_lw_law_300 rfl (om G1 S C hM1 _ (fun G2 S2 C2 hM2 hF2 => ?_))
  · apply Exists.intro
    repeat first | assumption | exact up_s | refine up_e (by first | decide | omega) ?_
  dsimp only [psh]
  refine A.icmp_eq 832 (by decide) d_lw_law_303 (fun c303 => ?_) (fun c303 => ?_)
  · refine A.room (by omega) (by omega) (h G2 M1 S2 C2 np1 (hC1.frM hF2 hI1.1.2.1 (fun p _ => hI1.1.zle p)) hM2 hI1 ho1 ((hF2 2 (by omega)).trans h21))
  · exact absurd rfl c303
theorem turn_worth (hC : CH G M np) (hM : MH G M S C) (hI : INV M np) (ho : own M np) (h2 : G 2 = some (aI L xs)) (hi : i + 5 ≤ L) (hL : L ≤ 2560) (h : GO kc ks i L xs Q) : A 17 M_lw_law 308 [some (.ref 2), some (.ref 20), some (.ref 100), some (.int (nI i))] [] G (kc + 8) (ks + 110) Q := by
  have hr := hC.root.1
  have op := @op_worth M G np (xs (i + 1)) hC hI ho
  obtain ⟨r, M1, np1, hI1, ho1, oa, om⟩ := op
  refine A.aload_k 1 rfl rfl rfl d_lw_law_308 ?_
  refine A.aload_k 0 rfl rfl rfl d_lw_law_309 ?_
  refine A.iload_k 3 rfl rfl d_lw_law_310 ?_
  refine A.iconst (v := 1) rfl d_lw_law_311 ?_
  refine A.iadd d_lw_law_312 ?_
  apply A.iaload (j := i + 1) d_lw_law_313
  · repeat first | assumption | exact up_s | refine up_e (by first | decide | omega) ?_
  · exact ixk (k := 1) rfl (by omega)
  · omega
  refine A.callV1 s_lw_33 ?_ (Nat.le_of_ble_eq_true rfl) (Nat.le_of_ble_eq_true rfl) (Nat.le_of_ble_eq_true rfl) d_lw_law_314 rfl (oa _ (fun G1 hC1 hF1 => ?_))
  · apply Exists.intro
    repeat first | assumption | exact up_s | refine up_e (by first | decide | omega) ?_
  dsimp only [psh]
  have hM1 := hM.frC hF1
  have hO1 := hM1.1
  have h21 : G1 2 = some (aI L xs) := (hF1 2 (Or.inl rfl)).trans h2
  refine A.aload_k 2 rfl rfl rfl d_lw_law_317 ?_
  refine A.aload_k 0 rfl rfl rfl d_lw_law_318 ?_
  refine A.iload_k 3 rfl rfl d_lw_law_319 ?_
  refine A.iconst (v := 1) rfl d_lw_law_320 ?_
  refine A.iadd d_lw_law_321 ?_
  apply A.iaload (j := i + 1) d_lw_law_322
  · repeat first | assumption | exact up_s | refine up_e (by first | decide | omega) ?_
  · exact ixk (k := 1) rfl (by omega)
  · omega
  refine A.callV1 s_lw_37 ?_ (Nat.le_of_ble_eq_true rfl) (Nat.le_of_ble_eq_true rfl) (Nat.le_of_ble_eq_true rfl) d_lw_law_323 rfl (om G1 S C hM1 _ (fun G2 S2 C2 hM2 hF2 => ?_))
  · apply Exists.intro
    repeat first | assumption | exact up_s | refine up_e (by first | decide | omega) ?_
  dsimp only [psh]
  refine A.icmp_eq 832 (by decide) d_lw_law_326 (fun c326 => ?_) (fun c326 => ?_)
  · refine A.room (by omega) (by omega) (h G2 M1 S2 C2 np1 (hC1.frM hF2 hI1.1.2.1 (fun p _ => hI1.1.zle p)) hM2 hI1 ho1 ((hF2 2 (by omega)).trans h21))
  · exact absurd rfl c326
theorem turn_interest (hC : CH G M np) (hM : MH G M S C) (hI : INV M np) (ho : own M np) (h2 : G 2 = some (aI L xs)) (hi : i + 5 ≤ L) (hL : L ≤ 2560) (h : GO kc ks i L xs Q) : A 17 M_lw_law 331 [some (.ref 2), some (.ref 20), some (.ref 100), some (.int (nI i))] [] G (kc + 8) (ks + 110) Q := by
  have hr := hC.root.1
  have op := @op_interest M G np (xs (i + 1)) (xs (i + 2)) hC hI ho
  obtain ⟨r, M1, np1, hI1, ho1, oa, om⟩ := op
  refine A.aload_k 1 rfl rfl rfl d_lw_law_331 ?_
  refine A.aload_k 0 rfl rfl rfl d_lw_law_332 ?_
  refine A.iload_k 3 rfl rfl d_lw_law_333 ?_
  refine A.iconst (v := 1) rfl d_lw_law_334 ?_
  refine A.iadd d_lw_law_335 ?_
  apply A.iaload (j := i + 1) d_lw_law_336
  · repeat first | assumption | exact up_s | refine up_e (by first | decide | omega) ?_
  · exact ixk (k := 1) rfl (by omega)
  · omega
  refine A.aload_k 0 rfl rfl rfl d_lw_law_337 ?_
  refine A.iload_k 3 rfl rfl d_lw_law_338 ?_
  refine A.iconst (v := 2) rfl d_lw_law_339 ?_
  refine A.iadd d_lw_law_340 ?_
  apply A.iaload (j := i + 2) d_lw_law_341
  · repeat first | assumption | exact up_s | refine up_e (by first | decide | omega) ?_
  · exact ixk (k := 2) rfl (by omega)
  · omega
  refine A.callV2 s_lw_38 ?_ (Nat.le_of_ble_eq_true rfl) (Nat.le_of_ble_eq_true rfl) (Nat.le_of_ble_eq_true rfl) d_lw_law_342 rfl (oa _ (fun G1 hC1 hF1 => ?_))
  · apply Exists.intro
    repeat first | assumption | exact up_s | refine up_e (by first | decide | omega) ?_
  dsimp only [psh]
  have hM1 := hM.frC hF1
  have hO1 := hM1.1
  have h21 : G1 2 = some (aI L xs) := (hF1 2 (Or.inl rfl)).trans h2
  refine A.aload_k 2 rfl rfl rfl d_lw_law_345 ?_
  refine A.aload_k 0 rfl rfl rfl d_lw_law_346 ?_
  refine A.iload_k 3 rfl rfl d_lw_law_347 ?_
  refine A.iconst (v := 1) rfl d_lw_law_348 ?_
  refine A.iadd d_lw_law_349 ?_
  apply A.iaload (j := i + 1) d_lw_law_350
  · repeat first | assumption | exact up_s | refine up_e (by first | decide | omega) ?_
  · exact ixk (k := 1) rfl (by omega)
  · omega
  refine A.aload_k 0 rfl rfl rfl d_lw_law_351 ?_
  refine A.iload_k 3 rfl rfl d_lw_law_352 ?_
  refine A.iconst (v := 2) rfl d_lw_law_353 ?_
  refine A.iadd d_lw_law_354 ?_
  apply A.iaload (j := i + 2) d_lw_law_355
  · repeat first | assumption | exact up_s | refine up_e (by first | decide | omega) ?_
  · exact ixk (k := 2) rfl (by omega)
  · omega
  refine A.callV2 s_lw_41 ?_ (Nat.le_of_ble_eq_true rfl) (Nat.le_of_ble_eq_true rfl) (Nat.le_of_ble_eq_true rfl) d_lw_law_356 rfl (om G1 S C hM1 _ (fun G2 S2 C2 hM2 hF2 => ?_))
  · apply Exists.intro
    repeat first | assumption | exact up_s | refine up_e (by first | decide | omega) ?_
  dsimp only [psh]
  refine A.icmp_eq 832 (by decide) d_lw_law_359 (fun c359 => ?_) (fun c359 => ?_)
  · refine A.room (by omega) (by omega) (h G2 M1 S2 C2 np1 (hC1.frM hF2 hI1.1.2.1 (fun p _ => hI1.1.zle p)) hM2 hI1 ho1 ((hF2 2 (by omega)).trans h21))
  · exact absurd rfl c359
theorem turn_bears (hC : CH G M np) (hM : MH G M S C) (hI : INV M np) (ho : own M np) (h2 : G 2 = some (aI L xs)) (hi : i + 5 ≤ L) (hL : L ≤ 2560) (h : GO kc ks i L xs Q) : A 17 M_lw_law 364 [some (.ref 2), some (.ref 20), some (.ref 100), some (.int (nI i))] [] G (kc + 8) (ks + 110) Q := by
  have hr := hC.root.1
  have op := @op_bears M G np (xs (i + 1)) (xs (i + 2)) hC hI ho
  obtain ⟨r, M1, np1, hI1, ho1, oa, om⟩ := op
  refine A.aload_k 1 rfl rfl rfl d_lw_law_364 ?_
  refine A.aload_k 0 rfl rfl rfl d_lw_law_365 ?_
  refine A.iload_k 3 rfl rfl d_lw_law_366 ?_
  refine A.iconst (v := 1) rfl d_lw_law_367 ?_
  refine A.iadd d_lw_law_368 ?_
  apply A.iaload (j := i + 1) d_lw_law_369
  · repeat first | assumption | exact up_s | refine up_e (by first | decide | omega) ?_
  · exact ixk (k := 1) rfl (by omega)
  · omega
  refine A.aload_k 0 rfl rfl rfl d_lw_law_370 ?_
  refine A.iload_k 3 rfl rfl d_lw_law_371 ?_
  refine A.iconst (v := 2) rfl d_lw_law_372 ?_
  refine A.iadd d_lw_law_373 ?_
  apply A.iaload (j := i + 2) d_lw_law_374
  · repeat first | assumption | exact up_s | refine up_e (by first | decide | omega) ?_
  · exact ixk (k := 2) rfl (by omega)
  · omega
  refine A.callV2 s_lw_42 ?_ (Nat.le_of_ble_eq_true rfl) (Nat.le_of_ble_eq_true rfl) (Nat.le_of_ble_eq_true rfl) d_lw_law_375 rfl (oa _ (fun G1 hC1 hF1 => ?_))
  · apply Exists.intro
    repeat first | assumption | exact up_s | refine up_e (by first | decide | omega) ?_
  dsimp only [psh]
  have hM1 := hM.frC hF1
  have hO1 := hM1.1
  have h21 : G1 2 = some (aI L xs) := (hF1 2 (Or.inl rfl)).trans h2
  refine A.aload_k 2 rfl rfl rfl d_lw_law_378 ?_
  refine A.aload_k 0 rfl rfl rfl d_lw_law_379 ?_
  refine A.iload_k 3 rfl rfl d_lw_law_380 ?_
  refine A.iconst (v := 1) rfl d_lw_law_381 ?_
  refine A.iadd d_lw_law_382 ?_
  apply A.iaload (j := i + 1) d_lw_law_383
  · repeat first | assumption | exact up_s | refine up_e (by first | decide | omega) ?_
  · exact ixk (k := 1) rfl (by omega)
  · omega
  refine A.aload_k 0 rfl rfl rfl d_lw_law_384 ?_
  refine A.iload_k 3 rfl rfl d_lw_law_385 ?_
  refine A.iconst (v := 2) rfl d_lw_law_386 ?_
  refine A.iadd d_lw_law_387 ?_
  apply A.iaload (j := i + 2) d_lw_law_388
  · repeat first | assumption | exact up_s | refine up_e (by first | decide | omega) ?_
  · exact ixk (k := 2) rfl (by omega)
  · omega
  refine A.callV2 s_lw_45 ?_ (Nat.le_of_ble_eq_true rfl) (Nat.le_of_ble_eq_true rfl) (Nat.le_of_ble_eq_true rfl) d_lw_law_389 rfl (om G1 S C hM1 _ (fun G2 S2 C2 hM2 hF2 => ?_))
  · apply Exists.intro
    repeat first | assumption | exact up_s | refine up_e (by first | decide | omega) ?_
  dsimp only [psh]
  refine A.icmp_eq 832 (by decide) d_lw_law_392 (fun c392 => ?_) (fun c392 => ?_)
  · refine A.room (by omega) (by omega) (h G2 M1 S2 C2 np1 (hC1.frM hF2 hI1.1.2.1 (fun p _ => hI1.1.zle p)) hM2 hI1 ho1 ((hF2 2 (by omega)).trans h21))
  · exact absurd rfl c392
theorem turn_decree (hC : CH G M np) (hM : MH G M S C) (hI : INV M np) (ho : own M np) (h2 : G 2 = some (aI L xs)) (hi : i + 5 ≤ L) (hL : L ≤ 2560) (h : GO kc ks i L xs Q) : A 17 M_lw_law 397 [some (.ref 2), some (.ref 20), some (.ref 100), some (.int (nI i))] [] G (kc + 8) (ks + 110) Q := by
  have hr := hC.root.1
  have op := @op_decree M G np (xs (i + 1)) hC hI ho
  obtain ⟨r, M1, np1, hI1, ho1, oa, om⟩ := op
  refine A.aload_k 1 rfl rfl rfl d_lw_law_397 ?_
  refine A.aload_k 0 rfl rfl rfl d_lw_law_398 ?_
  refine A.iload_k 3 rfl rfl d_lw_law_399 ?_
  refine A.iconst (v := 1) rfl d_lw_law_400 ?_
  refine A.iadd d_lw_law_401 ?_
  apply A.iaload (j := i + 1) d_lw_law_402
  · repeat first | assumption | exact up_s | refine up_e (by first | decide | omega) ?_
  · exact ixk (k := 1) rfl (by omega)
  · omega
  refine A.callV1 s_lw_46 ?_ (Nat.le_of_ble_eq_true rfl) (Nat.le_of_ble_eq_true rfl) (Nat.le_of_ble_eq_true rfl) d_lw_law_403 rfl (oa _ (fun G1 hC1 hF1 => ?_))
  · apply Exists.intro
    repeat first | assumption | exact up_s | refine up_e (by first | decide | omega) ?_
  dsimp only [psh]
  have hM1 := hM.frC hF1
  have hO1 := hM1.1
  have h21 : G1 2 = some (aI L xs) := (hF1 2 (Or.inl rfl)).trans h2
  refine A.aload_k 2 rfl rfl rfl d_lw_law_406 ?_
  refine A.aload_k 0 rfl rfl rfl d_lw_law_407 ?_
  refine A.iload_k 3 rfl rfl d_lw_law_408 ?_
  refine A.iconst (v := 1) rfl d_lw_law_409 ?_
  refine A.iadd d_lw_law_410 ?_
  apply A.iaload (j := i + 1) d_lw_law_411
  · repeat first | assumption | exact up_s | refine up_e (by first | decide | omega) ?_
  · exact ixk (k := 1) rfl (by omega)
  · omega
  refine A.callV1 s_lw_49 ?_ (Nat.le_of_ble_eq_true rfl) (Nat.le_of_ble_eq_true rfl) (Nat.le_of_ble_eq_true rfl) d_lw_law_412 rfl (om G1 S C hM1 _ (fun G2 S2 C2 hM2 hF2 => ?_))
  · apply Exists.intro
    repeat first | assumption | exact up_s | refine up_e (by first | decide | omega) ?_
  dsimp only [psh]
  refine A.icmp_eq 832 (by decide) d_lw_law_415 (fun c415 => ?_) (fun c415 => ?_)
  · refine A.room (by omega) (by omega) (h G2 M1 S2 C2 np1 (hC1.frM hF2 hI1.1.2.1 (fun p _ => hI1.1.zle p)) hM2 hI1 ho1 ((hF2 2 (by omega)).trans h21))
  · exact absurd rfl c415
theorem turn_act (hC : CH G M np) (hM : MH G M S C) (hI : INV M np) (ho : own M np) (h2 : G 2 = some (aI L xs)) (hi : i + 5 ≤ L) (hL : L ≤ 2560) (h : GO kc ks i L xs Q) : A 17 M_lw_law 420 [some (.ref 2), some (.ref 20), some (.ref 100), some (.int (nI i))] [] G (kc + 8) (ks + 110) Q := by
  have hr := hC.root.1
  have op := @op_act M G np (xs (i + 1)) (xs (i + 2)) hC hI ho
  obtain ⟨r, M1, np1, hI1, ho1, oa, om⟩ := op
  refine A.aload_k 1 rfl rfl rfl d_lw_law_420 ?_
  refine A.aload_k 0 rfl rfl rfl d_lw_law_421 ?_
  refine A.iload_k 3 rfl rfl d_lw_law_422 ?_
  refine A.iconst (v := 1) rfl d_lw_law_423 ?_
  refine A.iadd d_lw_law_424 ?_
  apply A.iaload (j := i + 1) d_lw_law_425
  · repeat first | assumption | exact up_s | refine up_e (by first | decide | omega) ?_
  · exact ixk (k := 1) rfl (by omega)
  · omega
  refine A.aload_k 0 rfl rfl rfl d_lw_law_426 ?_
  refine A.iload_k 3 rfl rfl d_lw_law_427 ?_
  refine A.iconst (v := 2) rfl d_lw_law_428 ?_
  refine A.iadd d_lw_law_429 ?_
  apply A.iaload (j := i + 2) d_lw_law_430
  · repeat first | assumption | exact up_s | refine up_e (by first | decide | omega) ?_
  · exact ixk (k := 2) rfl (by omega)
  · omega
  refine A.callV2 s_lw_50 ?_ (Nat.le_of_ble_eq_true rfl) (Nat.le_of_ble_eq_true rfl) (Nat.le_of_ble_eq_true rfl) d_lw_law_431 rfl (oa _ (fun G1 hC1 hF1 => ?_))
  · apply Exists.intro
    repeat first | assumption | exact up_s | refine up_e (by first | decide | omega) ?_
  dsimp only [psh]
  have hM1 := hM.frC hF1
  have hO1 := hM1.1
  have h21 : G1 2 = some (aI L xs) := (hF1 2 (Or.inl rfl)).trans h2
  refine A.aload_k 2 rfl rfl rfl d_lw_law_434 ?_
  refine A.aload_k 0 rfl rfl rfl d_lw_law_435 ?_
  refine A.iload_k 3 rfl rfl d_lw_law_436 ?_
  refine A.iconst (v := 1) rfl d_lw_law_437 ?_
  refine A.iadd d_lw_law_438 ?_
  apply A.iaload (j := i + 1) d_lw_law_439
  · repeat first | assumption | exact up_s | refine up_e (by first | decide | omega) ?_
  · exact ixk (k := 1) rfl (by omega)
  · omega
  refine A.aload_k 0 rfl rfl rfl d_lw_law_440 ?_
  refine A.iload_k 3 rfl rfl d_lw_law_441 ?_
  refine A.iconst (v := 2) rfl d_lw_law_442 ?_
  refine A.iadd d_lw_law_443 ?_
  apply A.iaload (j := i + 2) d_lw_law_444
  · repeat first | assumption | exact up_s | refine up_e (by first | decide | omega) ?_
  · exact ixk (k := 2) rfl (by omega)
  · omega
  refine A.callV2 s_lw_53 ?_ (Nat.le_of_ble_eq_true rfl) (Nat.le_of_ble_eq_true rfl) (Nat.le_of_ble_eq_true rfl) d_lw_law_445 rfl (om G1 S C hM1 _ (fun G2 S2 C2 hM2 hF2 => ?_))
  · apply Exists.intro
    repeat first | assumption | exact up_s | refine up_e (by first | decide | omega) ?_
  dsimp only [psh]
  refine A.icmp_eq 832 (by decide) d_lw_law_448 (fun c448 => ?_) (fun c448 => ?_)
  · refine A.room (by omega) (by omega) (h G2 M1 S2 C2 np1 (hC1.frM hF2 hI1.1.2.1 (fun p _ => hI1.1.zle p)) hM2 hI1 ho1 ((hF2 2 (by omega)).trans h21))
  · exact absurd rfl c448
theorem turn_year (hC : CH G M np) (hM : MH G M S C) (hI : INV M np) (ho : own M np) (h2 : G 2 = some (aI L xs)) (hi : i + 5 ≤ L) (hL : L ≤ 2560) (h : GO kc ks i L xs Q) : A 17 M_lw_law 453 [some (.ref 2), some (.ref 20), some (.ref 100), some (.int (nI i))] [] G (kc + 8) (ks + 110) Q := by
  have hr := hC.root.1
  have op := @op_year M G np hC hI ho
  obtain ⟨r, M1, np1, hI1, ho1, oa, om⟩ := op
  refine A.aload_k 1 rfl rfl rfl d_lw_law_453 ?_
  refine A.callV0 s_lw_54 ?_ (Nat.le_of_ble_eq_true rfl) (Nat.le_of_ble_eq_true rfl) (Nat.le_of_ble_eq_true rfl) d_lw_law_454 rfl (oa _ (fun G1 hC1 hF1 => ?_))
  · apply Exists.intro
    repeat first | assumption | exact up_s | refine up_e (by first | decide | omega) ?_
  dsimp only [psh]
  have hM1 := hM.frC hF1
  have hO1 := hM1.1
  have h21 : G1 2 = some (aI L xs) := (hF1 2 (Or.inl rfl)).trans h2
  refine A.aload_k 2 rfl rfl rfl d_lw_law_457 ?_
  refine A.callV0 s_lw_58 ?_ (Nat.le_of_ble_eq_true rfl) (Nat.le_of_ble_eq_true rfl) (Nat.le_of_ble_eq_true rfl) d_lw_law_458 rfl (om G1 S C hM1 _ (fun G2 S2 C2 hM2 hF2 => ?_))
  · apply Exists.intro
    repeat first | assumption | exact up_s | refine up_e (by first | decide | omega) ?_
  dsimp only [psh]
  refine A.icmp_eq 832 (by decide) d_lw_law_461 (fun c461 => ?_) (fun c461 => ?_)
  · refine A.room (by omega) (by omega) (h G2 M1 S2 C2 np1 (hC1.frM hF2 hI1.1.2.1 (fun p _ => hI1.1.zle p)) hM2 hI1 ho1 ((hF2 2 (by omega)).trans h21))
  · exact absurd rfl c461
theorem turn_due (hC : CH G M np) (hM : MH G M S C) (hI : INV M np) (ho : own M np) (h2 : G 2 = some (aI L xs)) (hi : i + 5 ≤ L) (hL : L ≤ 2560) (h : GO kc ks i L xs Q) : A 17 M_lw_law 466 [some (.ref 2), some (.ref 20), some (.ref 100), some (.int (nI i))] [] G (kc + 8) (ks + 110) Q := by
  have hr := hC.root.1
  have op := @op_due M G np (xs (i + 1)) (xs (i + 2)) hC hI ho
  obtain ⟨r, M1, np1, hI1, ho1, oa, om⟩ := op
  refine A.aload_k 1 rfl rfl rfl d_lw_law_466 ?_
  refine A.aload_k 0 rfl rfl rfl d_lw_law_467 ?_
  refine A.iload_k 3 rfl rfl d_lw_law_468 ?_
  refine A.iconst (v := 1) rfl d_lw_law_469 ?_
  refine A.iadd d_lw_law_470 ?_
  apply A.iaload (j := i + 1) d_lw_law_471
  · repeat first | assumption | exact up_s | refine up_e (by first | decide | omega) ?_
  · exact ixk (k := 1) rfl (by omega)
  · omega
  refine A.aload_k 0 rfl rfl rfl d_lw_law_472 ?_
  refine A.iload_k 3 rfl rfl d_lw_law_473 ?_
  refine A.iconst (v := 2) rfl d_lw_law_474 ?_
  refine A.iadd d_lw_law_475 ?_
  apply A.iaload (j := i + 2) d_lw_law_476
  · repeat first | assumption | exact up_s | refine up_e (by first | decide | omega) ?_
  · exact ixk (k := 2) rfl (by omega)
  · omega
  refine A.callV2 s_lw_59 ?_ (Nat.le_of_ble_eq_true rfl) (Nat.le_of_ble_eq_true rfl) (Nat.le_of_ble_eq_true rfl) d_lw_law_477 rfl (oa _ (fun G1 hC1 hF1 => ?_))
  · apply Exists.intro
    repeat first | assumption | exact up_s | refine up_e (by first | decide | omega) ?_
  dsimp only [psh]
  have hM1 := hM.frC hF1
  have hO1 := hM1.1
  have h21 : G1 2 = some (aI L xs) := (hF1 2 (Or.inl rfl)).trans h2
  refine A.aload_k 2 rfl rfl rfl d_lw_law_480 ?_
  refine A.aload_k 0 rfl rfl rfl d_lw_law_481 ?_
  refine A.iload_k 3 rfl rfl d_lw_law_482 ?_
  refine A.iconst (v := 1) rfl d_lw_law_483 ?_
  refine A.iadd d_lw_law_484 ?_
  apply A.iaload (j := i + 1) d_lw_law_485
  · repeat first | assumption | exact up_s | refine up_e (by first | decide | omega) ?_
  · exact ixk (k := 1) rfl (by omega)
  · omega
  refine A.aload_k 0 rfl rfl rfl d_lw_law_486 ?_
  refine A.iload_k 3 rfl rfl d_lw_law_487 ?_
  refine A.iconst (v := 2) rfl d_lw_law_488 ?_
  refine A.iadd d_lw_law_489 ?_
  apply A.iaload (j := i + 2) d_lw_law_490
  · repeat first | assumption | exact up_s | refine up_e (by first | decide | omega) ?_
  · exact ixk (k := 2) rfl (by omega)
  · omega
  refine A.callV2 s_lw_63 ?_ (Nat.le_of_ble_eq_true rfl) (Nat.le_of_ble_eq_true rfl) (Nat.le_of_ble_eq_true rfl) d_lw_law_491 rfl (om G1 S C hM1 _ (fun G2 S2 C2 hM2 hF2 => ?_))
  · apply Exists.intro
    repeat first | assumption | exact up_s | refine up_e (by first | decide | omega) ?_
  dsimp only [psh]
  refine A.icmp_eq 832 (by decide) d_lw_law_494 (fun c494 => ?_) (fun c494 => ?_)
  · refine A.room (by omega) (by omega) (h G2 M1 S2 C2 np1 (hC1.frM hF2 hI1.1.2.1 (fun p _ => hI1.1.zle p)) hM2 hI1 ho1 ((hF2 2 (by omega)).trans h21))
  · exact absurd rfl c494
theorem turn_saved (hC : CH G M np) (hM : MH G M S C) (hI : INV M np) (ho : own M np) (h2 : G 2 = some (aI L xs)) (hi : i + 5 ≤ L) (hL : L ≤ 2560) (h : GO kc ks i L xs Q) : A 17 M_lw_law 499 [some (.ref 2), some (.ref 20), some (.ref 100), some (.int (nI i))] [] G (kc + 8) (ks + 110) Q := by
  have hr := hC.root.1
  have op := @op_saved M G np (xs (i + 1)) hC hI ho
  obtain ⟨r, M1, np1, hI1, ho1, oa, om⟩ := op
  refine A.aload_k 1 rfl rfl rfl d_lw_law_499 ?_
  refine A.aload_k 0 rfl rfl rfl d_lw_law_500 ?_
  refine A.iload_k 3 rfl rfl d_lw_law_501 ?_
  refine A.iconst (v := 1) rfl d_lw_law_502 ?_
  refine A.iadd d_lw_law_503 ?_
  apply A.iaload (j := i + 1) d_lw_law_504
  · repeat first | assumption | exact up_s | refine up_e (by first | decide | omega) ?_
  · exact ixk (k := 1) rfl (by omega)
  · omega
  refine A.callV1 s_lw_64 ?_ (Nat.le_of_ble_eq_true rfl) (Nat.le_of_ble_eq_true rfl) (Nat.le_of_ble_eq_true rfl) d_lw_law_505 rfl (oa _ (fun G1 hC1 hF1 => ?_))
  · apply Exists.intro
    repeat first | assumption | exact up_s | refine up_e (by first | decide | omega) ?_
  dsimp only [psh]
  have hM1 := hM.frC hF1
  have hO1 := hM1.1
  have h21 : G1 2 = some (aI L xs) := (hF1 2 (Or.inl rfl)).trans h2
  refine A.aload_k 2 rfl rfl rfl d_lw_law_508 ?_
  refine A.aload_k 0 rfl rfl rfl d_lw_law_509 ?_
  refine A.iload_k 3 rfl rfl d_lw_law_510 ?_
  refine A.iconst (v := 1) rfl d_lw_law_511 ?_
  refine A.iadd d_lw_law_512 ?_
  apply A.iaload (j := i + 1) d_lw_law_513
  · repeat first | assumption | exact up_s | refine up_e (by first | decide | omega) ?_
  · exact ixk (k := 1) rfl (by omega)
  · omega
  refine A.callV1 s_lw_67 ?_ (Nat.le_of_ble_eq_true rfl) (Nat.le_of_ble_eq_true rfl) (Nat.le_of_ble_eq_true rfl) d_lw_law_514 rfl (om G1 S C hM1 _ (fun G2 S2 C2 hM2 hF2 => ?_))
  · apply Exists.intro
    repeat first | assumption | exact up_s | refine up_e (by first | decide | omega) ?_
  dsimp only [psh]
  refine A.icmp_eq 832 (by decide) d_lw_law_517 (fun c517 => ?_) (fun c517 => ?_)
  · refine A.room (by omega) (by omega) (h G2 M1 S2 C2 np1 (hC1.frM hF2 hI1.1.2.1 (fun p _ => hI1.1.zle p)) hM2 hI1 ho1 ((hF2 2 (by omega)).trans h21))
  · exact absurd rfl c517
theorem turn_heap (hC : CH G M np) (hM : MH G M S C) (hI : INV M np) (ho : own M np) (h2 : G 2 = some (aI L xs)) (hi : i + 5 ≤ L) (hL : L ≤ 2560) (h : GO kc ks i L xs Q) : A 17 M_lw_law 522 [some (.ref 2), some (.ref 20), some (.ref 100), some (.int (nI i))] [] G (kc + 8) (ks + 110) Q := by
  have hr := hC.root.1
  have op := @op_heap M G np (xs (i + 1)) hC hI ho
  obtain ⟨r, M1, np1, hI1, ho1, oa, om⟩ := op
  refine A.aload_k 1 rfl rfl rfl d_lw_law_522 ?_
  refine A.aload_k 0 rfl rfl rfl d_lw_law_523 ?_
  refine A.iload_k 3 rfl rfl d_lw_law_524 ?_
  refine A.iconst (v := 1) rfl d_lw_law_525 ?_
  refine A.iadd d_lw_law_526 ?_
  apply A.iaload (j := i + 1) d_lw_law_527
  · repeat first | assumption | exact up_s | refine up_e (by first | decide | omega) ?_
  · exact ixk (k := 1) rfl (by omega)
  · omega
  refine A.callV1 s_lw_68 ?_ (Nat.le_of_ble_eq_true rfl) (Nat.le_of_ble_eq_true rfl) (Nat.le_of_ble_eq_true rfl) d_lw_law_528 rfl (oa _ (fun G1 hC1 hF1 => ?_))
  · apply Exists.intro
    repeat first | assumption | exact up_s | refine up_e (by first | decide | omega) ?_
  dsimp only [psh]
  have hM1 := hM.frC hF1
  have hO1 := hM1.1
  have h21 : G1 2 = some (aI L xs) := (hF1 2 (Or.inl rfl)).trans h2
  refine A.aload_k 2 rfl rfl rfl d_lw_law_531 ?_
  refine A.aload_k 0 rfl rfl rfl d_lw_law_532 ?_
  refine A.iload_k 3 rfl rfl d_lw_law_533 ?_
  refine A.iconst (v := 1) rfl d_lw_law_534 ?_
  refine A.iadd d_lw_law_535 ?_
  apply A.iaload (j := i + 1) d_lw_law_536
  · repeat first | assumption | exact up_s | refine up_e (by first | decide | omega) ?_
  · exact ixk (k := 1) rfl (by omega)
  · omega
  refine A.callV1 s_lw_71 ?_ (Nat.le_of_ble_eq_true rfl) (Nat.le_of_ble_eq_true rfl) (Nat.le_of_ble_eq_true rfl) d_lw_law_537 rfl (om G1 S C hM1 _ (fun G2 S2 C2 hM2 hF2 => ?_))
  · apply Exists.intro
    repeat first | assumption | exact up_s | refine up_e (by first | decide | omega) ?_
  dsimp only [psh]
  refine A.icmp_eq 832 (by decide) d_lw_law_540 (fun c540 => ?_) (fun c540 => ?_)
  · refine A.room (by omega) (by omega) (h G2 M1 S2 C2 np1 (hC1.frM hF2 hI1.1.2.1 (fun p _ => hI1.1.zle p)) hM2 hI1 ho1 ((hF2 2 (by omega)).trans h21))
  · exact absurd rfl c540
theorem turn_works (hC : CH G M np) (hM : MH G M S C) (hI : INV M np) (ho : own M np) (h2 : G 2 = some (aI L xs)) (hi : i + 5 ≤ L) (hL : L ≤ 2560) (h : GO kc ks i L xs Q) : A 17 M_lw_law 545 [some (.ref 2), some (.ref 20), some (.ref 100), some (.int (nI i))] [] G (kc + 8) (ks + 110) Q := by
  have hr := hC.root.1
  have op := @op_works M G np (xs (i + 1)) hC hI ho
  obtain ⟨r, M1, np1, hI1, ho1, oa, om⟩ := op
  refine A.aload_k 1 rfl rfl rfl d_lw_law_545 ?_
  refine A.aload_k 0 rfl rfl rfl d_lw_law_546 ?_
  refine A.iload_k 3 rfl rfl d_lw_law_547 ?_
  refine A.iconst (v := 1) rfl d_lw_law_548 ?_
  refine A.iadd d_lw_law_549 ?_
  apply A.iaload (j := i + 1) d_lw_law_550
  · repeat first | assumption | exact up_s | refine up_e (by first | decide | omega) ?_
  · exact ixk (k := 1) rfl (by omega)
  · omega
  refine A.callV1 s_lw_72 ?_ (Nat.le_of_ble_eq_true rfl) (Nat.le_of_ble_eq_true rfl) (Nat.le_of_ble_eq_true rfl) d_lw_law_551 rfl (oa _ (fun G1 hC1 hF1 => ?_))
  · apply Exists.intro
    repeat first | assumption | exact up_s | refine up_e (by first | decide | omega) ?_
  dsimp only [psh]
  have hM1 := hM.frC hF1
  have hO1 := hM1.1
  have h21 : G1 2 = some (aI L xs) := (hF1 2 (Or.inl rfl)).trans h2
  refine A.aload_k 2 rfl rfl rfl d_lw_law_554 ?_
  refine A.aload_k 0 rfl rfl rfl d_lw_law_555 ?_
  refine A.iload_k 3 rfl rfl d_lw_law_556 ?_
  refine A.iconst (v := 1) rfl d_lw_law_557 ?_
  refine A.iadd d_lw_law_558 ?_
  apply A.iaload (j := i + 1) d_lw_law_559
  · repeat first | assumption | exact up_s | refine up_e (by first | decide | omega) ?_
  · exact ixk (k := 1) rfl (by omega)
  · omega
  refine A.callV1 s_lw_75 ?_ (Nat.le_of_ble_eq_true rfl) (Nat.le_of_ble_eq_true rfl) (Nat.le_of_ble_eq_true rfl) d_lw_law_560 rfl (om G1 S C hM1 _ (fun G2 S2 C2 hM2 hF2 => ?_))
  · apply Exists.intro
    repeat first | assumption | exact up_s | refine up_e (by first | decide | omega) ?_
  dsimp only [psh]
  refine A.icmp_eq 832 (by decide) d_lw_law_563 (fun c563 => ?_) (fun c563 => ?_)
  · refine A.room (by omega) (by omega) (h G2 M1 S2 C2 np1 (hC1.frM hF2 hI1.1.2.1 (fun p _ => hI1.1.zle p)) hM2 hI1 ho1 ((hF2 2 (by omega)).trans h21))
  · exact absurd rfl c563
theorem turn_tax (hC : CH G M np) (hM : MH G M S C) (hI : INV M np) (ho : own M np) (h2 : G 2 = some (aI L xs)) (hi : i + 5 ≤ L) (hL : L ≤ 2560) (h : GO kc ks i L xs Q) : A 17 M_lw_law 568 [some (.ref 2), some (.ref 20), some (.ref 100), some (.int (nI i))] [] G (kc + 8) (ks + 110) Q := by
  have hr := hC.root.1
  have op := @op_tax M G np (xs (i + 1)) hC hI ho
  obtain ⟨r, M1, np1, hI1, ho1, oa, om⟩ := op
  refine A.aload_k 1 rfl rfl rfl d_lw_law_568 ?_
  refine A.aload_k 0 rfl rfl rfl d_lw_law_569 ?_
  refine A.iload_k 3 rfl rfl d_lw_law_570 ?_
  refine A.iconst (v := 1) rfl d_lw_law_571 ?_
  refine A.iadd d_lw_law_572 ?_
  apply A.iaload (j := i + 1) d_lw_law_573
  · repeat first | assumption | exact up_s | refine up_e (by first | decide | omega) ?_
  · exact ixk (k := 1) rfl (by omega)
  · omega
  refine A.callV1 s_lw_76 ?_ (Nat.le_of_ble_eq_true rfl) (Nat.le_of_ble_eq_true rfl) (Nat.le_of_ble_eq_true rfl) d_lw_law_574 rfl (oa _ (fun G1 hC1 hF1 => ?_))
  · apply Exists.intro
    repeat first | assumption | exact up_s | refine up_e (by first | decide | omega) ?_
  dsimp only [psh]
  have hM1 := hM.frC hF1
  have hO1 := hM1.1
  have h21 : G1 2 = some (aI L xs) := (hF1 2 (Or.inl rfl)).trans h2
  refine A.aload_k 2 rfl rfl rfl d_lw_law_577 ?_
  refine A.aload_k 0 rfl rfl rfl d_lw_law_578 ?_
  refine A.iload_k 3 rfl rfl d_lw_law_579 ?_
  refine A.iconst (v := 1) rfl d_lw_law_580 ?_
  refine A.iadd d_lw_law_581 ?_
  apply A.iaload (j := i + 1) d_lw_law_582
  · repeat first | assumption | exact up_s | refine up_e (by first | decide | omega) ?_
  · exact ixk (k := 1) rfl (by omega)
  · omega
  refine A.callV1 s_lw_80 ?_ (Nat.le_of_ble_eq_true rfl) (Nat.le_of_ble_eq_true rfl) (Nat.le_of_ble_eq_true rfl) d_lw_law_583 rfl (om G1 S C hM1 _ (fun G2 S2 C2 hM2 hF2 => ?_))
  · apply Exists.intro
    repeat first | assumption | exact up_s | refine up_e (by first | decide | omega) ?_
  dsimp only [psh]
  refine A.icmp_eq 832 (by decide) d_lw_law_586 (fun c586 => ?_) (fun c586 => ?_)
  · refine A.room (by omega) (by omega) (h G2 M1 S2 C2 np1 (hC1.frM hF2 hI1.1.2.1 (fun p _ => hI1.1.zle p)) hM2 hI1 ho1 ((hF2 2 (by omega)).trans h21))
  · exact absurd rfl c586
theorem turn_stake (hC : CH G M np) (hM : MH G M S C) (hI : INV M np) (ho : own M np) (h2 : G 2 = some (aI L xs)) (hi : i + 5 ≤ L) (hL : L ≤ 2560) (h : GO kc ks i L xs Q) : A 17 M_lw_law 591 [some (.ref 2), some (.ref 20), some (.ref 100), some (.int (nI i))] [] G (kc + 8) (ks + 110) Q := by
  have hr := hC.root.1
  have op := @op_stake M G np (xs (i + 1)) (xs (i + 2)) (xs (i + 3)) hC hI ho
  obtain ⟨r, M1, np1, hI1, ho1, oa, om⟩ := op
  refine A.aload_k 1 rfl rfl rfl d_lw_law_591 ?_
  refine A.aload_k 0 rfl rfl rfl d_lw_law_592 ?_
  refine A.iload_k 3 rfl rfl d_lw_law_593 ?_
  refine A.iconst (v := 1) rfl d_lw_law_594 ?_
  refine A.iadd d_lw_law_595 ?_
  apply A.iaload (j := i + 1) d_lw_law_596
  · repeat first | assumption | exact up_s | refine up_e (by first | decide | omega) ?_
  · exact ixk (k := 1) rfl (by omega)
  · omega
  refine A.aload_k 0 rfl rfl rfl d_lw_law_597 ?_
  refine A.iload_k 3 rfl rfl d_lw_law_598 ?_
  refine A.iconst (v := 2) rfl d_lw_law_599 ?_
  refine A.iadd d_lw_law_600 ?_
  apply A.iaload (j := i + 2) d_lw_law_601
  · repeat first | assumption | exact up_s | refine up_e (by first | decide | omega) ?_
  · exact ixk (k := 2) rfl (by omega)
  · omega
  refine A.aload_k 0 rfl rfl rfl d_lw_law_602 ?_
  refine A.iload_k 3 rfl rfl d_lw_law_603 ?_
  refine A.iconst (v := 3) rfl d_lw_law_604 ?_
  refine A.iadd d_lw_law_605 ?_
  apply A.iaload (j := i + 3) d_lw_law_606
  · repeat first | assumption | exact up_s | refine up_e (by first | decide | omega) ?_
  · exact ixk (k := 3) rfl (by omega)
  · omega
  refine A.callV3 s_lw_81 ?_ (Nat.le_of_ble_eq_true rfl) (Nat.le_of_ble_eq_true rfl) (Nat.le_of_ble_eq_true rfl) d_lw_law_607 rfl (oa _ (fun G1 hC1 hF1 => ?_))
  · apply Exists.intro
    repeat first | assumption | exact up_s | refine up_e (by first | decide | omega) ?_
  dsimp only [psh]
  have hM1 := hM.frC hF1
  have hO1 := hM1.1
  have h21 : G1 2 = some (aI L xs) := (hF1 2 (Or.inl rfl)).trans h2
  refine A.aload_k 2 rfl rfl rfl d_lw_law_610 ?_
  refine A.aload_k 0 rfl rfl rfl d_lw_law_611 ?_
  refine A.iload_k 3 rfl rfl d_lw_law_612 ?_
  refine A.iconst (v := 1) rfl d_lw_law_613 ?_
  refine A.iadd d_lw_law_614 ?_
  apply A.iaload (j := i + 1) d_lw_law_615
  · repeat first | assumption | exact up_s | refine up_e (by first | decide | omega) ?_
  · exact ixk (k := 1) rfl (by omega)
  · omega
  refine A.aload_k 0 rfl rfl rfl d_lw_law_616 ?_
  refine A.iload_k 3 rfl rfl d_lw_law_617 ?_
  refine A.iconst (v := 2) rfl d_lw_law_618 ?_
  refine A.iadd d_lw_law_619 ?_
  apply A.iaload (j := i + 2) d_lw_law_620
  · repeat first | assumption | exact up_s | refine up_e (by first | decide | omega) ?_
  · exact ixk (k := 2) rfl (by omega)
  · omega
  refine A.aload_k 0 rfl rfl rfl d_lw_law_621 ?_
  refine A.iload_k 3 rfl rfl d_lw_law_622 ?_
  refine A.iconst (v := 3) rfl d_lw_law_623 ?_
  refine A.iadd d_lw_law_624 ?_
  apply A.iaload (j := i + 3) d_lw_law_625
  · repeat first | assumption | exact up_s | refine up_e (by first | decide | omega) ?_
  · exact ixk (k := 3) rfl (by omega)
  · omega
  refine A.callV3 s_lw_84 ?_ (Nat.le_of_ble_eq_true rfl) (Nat.le_of_ble_eq_true rfl) (Nat.le_of_ble_eq_true rfl) d_lw_law_626 rfl (om G1 S C hM1 _ (fun G2 S2 C2 hM2 hF2 => ?_))
  · apply Exists.intro
    repeat first | assumption | exact up_s | refine up_e (by first | decide | omega) ?_
  dsimp only [psh]
  refine A.icmp_eq 832 (by decide) d_lw_law_629 (fun c629 => ?_) (fun c629 => ?_)
  · refine A.room (by omega) (by omega) (h G2 M1 S2 C2 np1 (hC1.frM hF2 hI1.1.2.1 (fun p _ => hI1.1.zle p)) hM2 hI1 ho1 ((hF2 2 (by omega)).trans h21))
  · exact absurd rfl c629
theorem turn_quarrel (hC : CH G M np) (hM : MH G M S C) (hI : INV M np) (ho : own M np) (h2 : G 2 = some (aI L xs)) (hi : i + 5 ≤ L) (hL : L ≤ 2560) (h : GO kc ks i L xs Q) : A 17 M_lw_law 634 [some (.ref 2), some (.ref 20), some (.ref 100), some (.int (nI i))] [] G (kc + 8) (ks + 110) Q := by
  have hr := hC.root.1
  have op := @op_quarrel M G np (xs (i + 1)) (xs (i + 2)) hC hI ho
  obtain ⟨r, M1, np1, hI1, ho1, oa, om⟩ := op
  refine A.aload_k 1 rfl rfl rfl d_lw_law_634 ?_
  refine A.aload_k 0 rfl rfl rfl d_lw_law_635 ?_
  refine A.iload_k 3 rfl rfl d_lw_law_636 ?_
  refine A.iconst (v := 1) rfl d_lw_law_637 ?_
  refine A.iadd d_lw_law_638 ?_
  apply A.iaload (j := i + 1) d_lw_law_639
  · repeat first | assumption | exact up_s | refine up_e (by first | decide | omega) ?_
  · exact ixk (k := 1) rfl (by omega)
  · omega
  refine A.aload_k 0 rfl rfl rfl d_lw_law_640 ?_
  refine A.iload_k 3 rfl rfl d_lw_law_641 ?_
  refine A.iconst (v := 2) rfl d_lw_law_642 ?_
  refine A.iadd d_lw_law_643 ?_
  apply A.iaload (j := i + 2) d_lw_law_644
  · repeat first | assumption | exact up_s | refine up_e (by first | decide | omega) ?_
  · exact ixk (k := 2) rfl (by omega)
  · omega
  refine A.callV2 s_lw_85 ?_ (Nat.le_of_ble_eq_true rfl) (Nat.le_of_ble_eq_true rfl) (Nat.le_of_ble_eq_true rfl) d_lw_law_645 rfl (oa _ (fun G1 hC1 hF1 => ?_))
  · apply Exists.intro
    repeat first | assumption | exact up_s | refine up_e (by first | decide | omega) ?_
  dsimp only [psh]
  have hM1 := hM.frC hF1
  have hO1 := hM1.1
  have h21 : G1 2 = some (aI L xs) := (hF1 2 (Or.inl rfl)).trans h2
  refine A.aload_k 2 rfl rfl rfl d_lw_law_648 ?_
  refine A.aload_k 0 rfl rfl rfl d_lw_law_649 ?_
  refine A.iload_k 3 rfl rfl d_lw_law_650 ?_
  refine A.iconst (v := 1) rfl d_lw_law_651 ?_
  refine A.iadd d_lw_law_652 ?_
  apply A.iaload (j := i + 1) d_lw_law_653
  · repeat first | assumption | exact up_s | refine up_e (by first | decide | omega) ?_
  · exact ixk (k := 1) rfl (by omega)
  · omega
  refine A.aload_k 0 rfl rfl rfl d_lw_law_654 ?_
  refine A.iload_k 3 rfl rfl d_lw_law_655 ?_
  refine A.iconst (v := 2) rfl d_lw_law_656 ?_
  refine A.iadd d_lw_law_657 ?_
  apply A.iaload (j := i + 2) d_lw_law_658
  · repeat first | assumption | exact up_s | refine up_e (by first | decide | omega) ?_
  · exact ixk (k := 2) rfl (by omega)
  · omega
  refine A.callV2 s_lw_88 ?_ (Nat.le_of_ble_eq_true rfl) (Nat.le_of_ble_eq_true rfl) (Nat.le_of_ble_eq_true rfl) d_lw_law_659 rfl (om G1 S C hM1 _ (fun G2 S2 C2 hM2 hF2 => ?_))
  · apply Exists.intro
    repeat first | assumption | exact up_s | refine up_e (by first | decide | omega) ?_
  dsimp only [psh]
  refine A.icmp_eq 832 (by decide) d_lw_law_662 (fun c662 => ?_) (fun c662 => ?_)
  · refine A.room (by omega) (by omega) (h G2 M1 S2 C2 np1 (hC1.frM hF2 hI1.1.2.1 (fun p _ => hI1.1.zle p)) hM2 hI1 ho1 ((hF2 2 (by omega)).trans h21))
  · exact absurd rfl c662
theorem turn_border (hC : CH G M np) (hM : MH G M S C) (hI : INV M np) (ho : own M np) (h2 : G 2 = some (aI L xs)) (hi : i + 5 ≤ L) (hL : L ≤ 2560) (h : GO kc ks i L xs Q) : A 17 M_lw_law 667 [some (.ref 2), some (.ref 20), some (.ref 100), some (.int (nI i))] [] G (kc + 8) (ks + 110) Q := by
  have hr := hC.root.1
  have op := @op_border M G np (xs (i + 1)) (xs (i + 2)) (xs (i + 3)) hC hI ho
  obtain ⟨r, M1, np1, hI1, ho1, oa, om⟩ := op
  refine A.aload_k 1 rfl rfl rfl d_lw_law_667 ?_
  refine A.aload_k 0 rfl rfl rfl d_lw_law_668 ?_
  refine A.iload_k 3 rfl rfl d_lw_law_669 ?_
  refine A.iconst (v := 1) rfl d_lw_law_670 ?_
  refine A.iadd d_lw_law_671 ?_
  apply A.iaload (j := i + 1) d_lw_law_672
  · repeat first | assumption | exact up_s | refine up_e (by first | decide | omega) ?_
  · exact ixk (k := 1) rfl (by omega)
  · omega
  refine A.aload_k 0 rfl rfl rfl d_lw_law_673 ?_
  refine A.iload_k 3 rfl rfl d_lw_law_674 ?_
  refine A.iconst (v := 2) rfl d_lw_law_675 ?_
  refine A.iadd d_lw_law_676 ?_
  apply A.iaload (j := i + 2) d_lw_law_677
  · repeat first | assumption | exact up_s | refine up_e (by first | decide | omega) ?_
  · exact ixk (k := 2) rfl (by omega)
  · omega
  refine A.aload_k 0 rfl rfl rfl d_lw_law_678 ?_
  refine A.iload_k 3 rfl rfl d_lw_law_679 ?_
  refine A.iconst (v := 3) rfl d_lw_law_680 ?_
  refine A.iadd d_lw_law_681 ?_
  apply A.iaload (j := i + 3) d_lw_law_682
  · repeat first | assumption | exact up_s | refine up_e (by first | decide | omega) ?_
  · exact ixk (k := 3) rfl (by omega)
  · omega
  refine A.callV3 s_lw_89 ?_ (Nat.le_of_ble_eq_true rfl) (Nat.le_of_ble_eq_true rfl) (Nat.le_of_ble_eq_true rfl) d_lw_law_683 rfl (oa _ (fun G1 hC1 hF1 => ?_))
  · apply Exists.intro
    repeat first | assumption | exact up_s | refine up_e (by first | decide | omega) ?_
  dsimp only [psh]
  have hM1 := hM.frC hF1
  have hO1 := hM1.1
  have h21 : G1 2 = some (aI L xs) := (hF1 2 (Or.inl rfl)).trans h2
  refine A.aload_k 2 rfl rfl rfl d_lw_law_686 ?_
  refine A.aload_k 0 rfl rfl rfl d_lw_law_687 ?_
  refine A.iload_k 3 rfl rfl d_lw_law_688 ?_
  refine A.iconst (v := 1) rfl d_lw_law_689 ?_
  refine A.iadd d_lw_law_690 ?_
  apply A.iaload (j := i + 1) d_lw_law_691
  · repeat first | assumption | exact up_s | refine up_e (by first | decide | omega) ?_
  · exact ixk (k := 1) rfl (by omega)
  · omega
  refine A.aload_k 0 rfl rfl rfl d_lw_law_692 ?_
  refine A.iload_k 3 rfl rfl d_lw_law_693 ?_
  refine A.iconst (v := 2) rfl d_lw_law_694 ?_
  refine A.iadd d_lw_law_695 ?_
  apply A.iaload (j := i + 2) d_lw_law_696
  · repeat first | assumption | exact up_s | refine up_e (by first | decide | omega) ?_
  · exact ixk (k := 2) rfl (by omega)
  · omega
  refine A.aload_k 0 rfl rfl rfl d_lw_law_697 ?_
  refine A.iload_k 3 rfl rfl d_lw_law_698 ?_
  refine A.iconst (v := 3) rfl d_lw_law_699 ?_
  refine A.iadd d_lw_law_700 ?_
  apply A.iaload (j := i + 3) d_lw_law_701
  · repeat first | assumption | exact up_s | refine up_e (by first | decide | omega) ?_
  · exact ixk (k := 3) rfl (by omega)
  · omega
  refine A.callV3 s_lw_92 ?_ (Nat.le_of_ble_eq_true rfl) (Nat.le_of_ble_eq_true rfl) (Nat.le_of_ble_eq_true rfl) d_lw_law_702 rfl (om G1 S C hM1 _ (fun G2 S2 C2 hM2 hF2 => ?_))
  · apply Exists.intro
    repeat first | assumption | exact up_s | refine up_e (by first | decide | omega) ?_
  dsimp only [psh]
  refine A.icmp_eq 832 (by decide) d_lw_law_705 (fun c705 => ?_) (fun c705 => ?_)
  · refine A.room (by omega) (by omega) (h G2 M1 S2 C2 np1 (hC1.frM hF2 hI1.1.2.1 (fun p _ => hI1.1.zle p)) hM2 hI1 ho1 ((hF2 2 (by omega)).trans h21))
  · exact absurd rfl c705
theorem turn_told (hC : CH G M np) (hM : MH G M S C) (hI : INV M np) (ho : own M np) (h2 : G 2 = some (aI L xs)) (hi : i + 5 ≤ L) (hL : L ≤ 2560) (h : GO kc ks i L xs Q) : A 17 M_lw_law 710 [some (.ref 2), some (.ref 20), some (.ref 100), some (.int (nI i))] [] G (kc + 8) (ks + 110) Q := by
  have hr := hC.root.1
  have op := @op_told M G np (xs (i + 1)) (xs (i + 2)) hC hI ho
  obtain ⟨r, M1, np1, hI1, ho1, oa, om⟩ := op
  refine A.aload_k 1 rfl rfl rfl d_lw_law_710 ?_
  refine A.aload_k 0 rfl rfl rfl d_lw_law_711 ?_
  refine A.iload_k 3 rfl rfl d_lw_law_712 ?_
  refine A.iconst (v := 1) rfl d_lw_law_713 ?_
  refine A.iadd d_lw_law_714 ?_
  apply A.iaload (j := i + 1) d_lw_law_715
  · repeat first | assumption | exact up_s | refine up_e (by first | decide | omega) ?_
  · exact ixk (k := 1) rfl (by omega)
  · omega
  refine A.aload_k 0 rfl rfl rfl d_lw_law_716 ?_
  refine A.iload_k 3 rfl rfl d_lw_law_717 ?_
  refine A.iconst (v := 2) rfl d_lw_law_718 ?_
  refine A.iadd d_lw_law_719 ?_
  apply A.iaload (j := i + 2) d_lw_law_720
  · repeat first | assumption | exact up_s | refine up_e (by first | decide | omega) ?_
  · exact ixk (k := 2) rfl (by omega)
  · omega
  refine A.callV2 s_lw_93 ?_ (Nat.le_of_ble_eq_true rfl) (Nat.le_of_ble_eq_true rfl) (Nat.le_of_ble_eq_true rfl) d_lw_law_721 rfl (oa _ (fun G1 hC1 hF1 => ?_))
  · apply Exists.intro
    repeat first | assumption | exact up_s | refine up_e (by first | decide | omega) ?_
  dsimp only [psh]
  have hM1 := hM.frC hF1
  have hO1 := hM1.1
  have h21 : G1 2 = some (aI L xs) := (hF1 2 (Or.inl rfl)).trans h2
  refine A.aload_k 2 rfl rfl rfl d_lw_law_724 ?_
  refine A.aload_k 0 rfl rfl rfl d_lw_law_725 ?_
  refine A.iload_k 3 rfl rfl d_lw_law_726 ?_
  refine A.iconst (v := 1) rfl d_lw_law_727 ?_
  refine A.iadd d_lw_law_728 ?_
  apply A.iaload (j := i + 1) d_lw_law_729
  · repeat first | assumption | exact up_s | refine up_e (by first | decide | omega) ?_
  · exact ixk (k := 1) rfl (by omega)
  · omega
  refine A.aload_k 0 rfl rfl rfl d_lw_law_730 ?_
  refine A.iload_k 3 rfl rfl d_lw_law_731 ?_
  refine A.iconst (v := 2) rfl d_lw_law_732 ?_
  refine A.iadd d_lw_law_733 ?_
  apply A.iaload (j := i + 2) d_lw_law_734
  · repeat first | assumption | exact up_s | refine up_e (by first | decide | omega) ?_
  · exact ixk (k := 2) rfl (by omega)
  · omega
  refine A.callV2 s_lw_96 ?_ (Nat.le_of_ble_eq_true rfl) (Nat.le_of_ble_eq_true rfl) (Nat.le_of_ble_eq_true rfl) d_lw_law_735 rfl (om G1 S C hM1 _ (fun G2 S2 C2 hM2 hF2 => ?_))
  · apply Exists.intro
    repeat first | assumption | exact up_s | refine up_e (by first | decide | omega) ?_
  dsimp only [psh]
  refine A.icmp_eq 832 (by decide) d_lw_law_738 (fun c738 => ?_) (fun c738 => ?_)
  · refine A.room (by omega) (by omega) (h G2 M1 S2 C2 np1 (hC1.frM hF2 hI1.1.2.1 (fun p _ => hI1.1.zle p)) hM2 hI1 ho1 ((hF2 2 (by omega)).trans h21))
  · exact absurd rfl c738
theorem turn_chain (hC : CH G M np) (hM : MH G M S C) (hI : INV M np) (ho : own M np) (h2 : G 2 = some (aI L xs)) (hi : i + 5 ≤ L) (hL : L ≤ 2560) (h : GO kc ks i L xs Q) : A 17 M_lw_law 743 [some (.ref 2), some (.ref 20), some (.ref 100), some (.int (nI i))] [] G (kc + 8) (ks + 110) Q := by
  have hr := hC.root.1
  have op := @op_chain M G np (xs (i + 1)) (xs (i + 2)) (xs (i + 3)) hC hI ho
  obtain ⟨r, M1, np1, hI1, ho1, oa, om⟩ := op
  refine A.aload_k 1 rfl rfl rfl d_lw_law_743 ?_
  refine A.aload_k 0 rfl rfl rfl d_lw_law_744 ?_
  refine A.iload_k 3 rfl rfl d_lw_law_745 ?_
  refine A.iconst (v := 1) rfl d_lw_law_746 ?_
  refine A.iadd d_lw_law_747 ?_
  apply A.iaload (j := i + 1) d_lw_law_748
  · repeat first | assumption | exact up_s | refine up_e (by first | decide | omega) ?_
  · exact ixk (k := 1) rfl (by omega)
  · omega
  refine A.aload_k 0 rfl rfl rfl d_lw_law_749 ?_
  refine A.iload_k 3 rfl rfl d_lw_law_750 ?_
  refine A.iconst (v := 2) rfl d_lw_law_751 ?_
  refine A.iadd d_lw_law_752 ?_
  apply A.iaload (j := i + 2) d_lw_law_753
  · repeat first | assumption | exact up_s | refine up_e (by first | decide | omega) ?_
  · exact ixk (k := 2) rfl (by omega)
  · omega
  refine A.aload_k 0 rfl rfl rfl d_lw_law_754 ?_
  refine A.iload_k 3 rfl rfl d_lw_law_755 ?_
  refine A.iconst (v := 3) rfl d_lw_law_756 ?_
  refine A.iadd d_lw_law_757 ?_
  apply A.iaload (j := i + 3) d_lw_law_758
  · repeat first | assumption | exact up_s | refine up_e (by first | decide | omega) ?_
  · exact ixk (k := 3) rfl (by omega)
  · omega
  refine A.callV3 s_lw_97 ?_ (Nat.le_of_ble_eq_true rfl) (Nat.le_of_ble_eq_true rfl) (Nat.le_of_ble_eq_true rfl) d_lw_law_759 rfl (oa _ (fun G1 hC1 hF1 => ?_))
  · apply Exists.intro
    repeat first | assumption | exact up_s | refine up_e (by first | decide | omega) ?_
  dsimp only [psh]
  have hM1 := hM.frC hF1
  have hO1 := hM1.1
  have h21 : G1 2 = some (aI L xs) := (hF1 2 (Or.inl rfl)).trans h2
  refine A.aload_k 2 rfl rfl rfl d_lw_law_762 ?_
  refine A.aload_k 0 rfl rfl rfl d_lw_law_763 ?_
  refine A.iload_k 3 rfl rfl d_lw_law_764 ?_
  refine A.iconst (v := 1) rfl d_lw_law_765 ?_
  refine A.iadd d_lw_law_766 ?_
  apply A.iaload (j := i + 1) d_lw_law_767
  · repeat first | assumption | exact up_s | refine up_e (by first | decide | omega) ?_
  · exact ixk (k := 1) rfl (by omega)
  · omega
  refine A.aload_k 0 rfl rfl rfl d_lw_law_768 ?_
  refine A.iload_k 3 rfl rfl d_lw_law_769 ?_
  refine A.iconst (v := 2) rfl d_lw_law_770 ?_
  refine A.iadd d_lw_law_771 ?_
  apply A.iaload (j := i + 2) d_lw_law_772
  · repeat first | assumption | exact up_s | refine up_e (by first | decide | omega) ?_
  · exact ixk (k := 2) rfl (by omega)
  · omega
  refine A.aload_k 0 rfl rfl rfl d_lw_law_773 ?_
  refine A.iload_k 3 rfl rfl d_lw_law_774 ?_
  refine A.iconst (v := 3) rfl d_lw_law_775 ?_
  refine A.iadd d_lw_law_776 ?_
  apply A.iaload (j := i + 3) d_lw_law_777
  · repeat first | assumption | exact up_s | refine up_e (by first | decide | omega) ?_
  · exact ixk (k := 3) rfl (by omega)
  · omega
  refine A.callV3 s_lw_100 ?_ (Nat.le_of_ble_eq_true rfl) (Nat.le_of_ble_eq_true rfl) (Nat.le_of_ble_eq_true rfl) d_lw_law_778 rfl (om G1 S C hM1 _ (fun G2 S2 C2 hM2 hF2 => ?_))
  · apply Exists.intro
    repeat first | assumption | exact up_s | refine up_e (by first | decide | omega) ?_
  dsimp only [psh]
  refine A.icmp_eq 832 (by decide) d_lw_law_781 (fun c781 => ?_) (fun c781 => ?_)
  · refine A.room (by omega) (by omega) (h G2 M1 S2 C2 np1 (hC1.frM hF2 hI1.1.2.1 (fun p _ => hI1.1.zle p)) hM2 hI1 ho1 ((hF2 2 (by omega)).trans h21))
  · exact absurd rfl c781
theorem turn_has (hC : CH G M np) (hM : MH G M S C) (hI : INV M np) (ho : own M np) (h2 : G 2 = some (aI L xs)) (hi : i + 5 ≤ L) (hL : L ≤ 2560) (h : GO kc ks i L xs Q) : A 17 M_lw_law 786 [some (.ref 2), some (.ref 20), some (.ref 100), some (.int (nI i))] [] G (kc + 8) (ks + 110) Q := by
  have hr := hC.root.1
  have op := @op_has M G np (xs (i + 1)) hC hI ho
  obtain ⟨r, M1, np1, hI1, ho1, oa, om⟩ := op
  refine A.aload_k 1 rfl rfl rfl d_lw_law_786 ?_
  refine A.aload_k 0 rfl rfl rfl d_lw_law_787 ?_
  refine A.iload_k 3 rfl rfl d_lw_law_788 ?_
  refine A.iconst (v := 1) rfl d_lw_law_789 ?_
  refine A.iadd d_lw_law_790 ?_
  apply A.iaload (j := i + 1) d_lw_law_791
  · repeat first | assumption | exact up_s | refine up_e (by first | decide | omega) ?_
  · exact ixk (k := 1) rfl (by omega)
  · omega
  refine A.callV1 s_lw_101 ?_ (Nat.le_of_ble_eq_true rfl) (Nat.le_of_ble_eq_true rfl) (Nat.le_of_ble_eq_true rfl) d_lw_law_792 rfl (oa _ (fun G1 hC1 hF1 => ?_))
  · apply Exists.intro
    repeat first | assumption | exact up_s | refine up_e (by first | decide | omega) ?_
  dsimp only [psh]
  have hM1 := hM.frC hF1
  have hO1 := hM1.1
  have h21 : G1 2 = some (aI L xs) := (hF1 2 (Or.inl rfl)).trans h2
  refine A.aload_k 2 rfl rfl rfl d_lw_law_795 ?_
  refine A.aload_k 0 rfl rfl rfl d_lw_law_796 ?_
  refine A.iload_k 3 rfl rfl d_lw_law_797 ?_
  refine A.iconst (v := 1) rfl d_lw_law_798 ?_
  refine A.iadd d_lw_law_799 ?_
  apply A.iaload (j := i + 1) d_lw_law_800
  · repeat first | assumption | exact up_s | refine up_e (by first | decide | omega) ?_
  · exact ixk (k := 1) rfl (by omega)
  · omega
  refine A.callV1 s_lw_104 ?_ (Nat.le_of_ble_eq_true rfl) (Nat.le_of_ble_eq_true rfl) (Nat.le_of_ble_eq_true rfl) d_lw_law_801 rfl (om G1 S C hM1 _ (fun G2 S2 C2 hM2 hF2 => ?_))
  · apply Exists.intro
    repeat first | assumption | exact up_s | refine up_e (by first | decide | omega) ?_
  dsimp only [psh]
  refine A.icmp_eq 832 (by decide) d_lw_law_804 (fun c804 => ?_) (fun c804 => ?_)
  · refine A.room (by omega) (by omega) (h G2 M1 S2 C2 np1 (hC1.frM hF2 hI1.1.2.1 (fun p _ => hI1.1.zle p)) hM2 hI1 ho1 ((hF2 2 (by omega)).trans h21))
  · exact absurd rfl c804
theorem turn_count (hC : CH G M np) (hM : MH G M S C) (hI : INV M np) (ho : own M np) (h2 : G 2 = some (aI L xs)) (hi : i + 5 ≤ L) (hL : L ≤ 2560) (h : GO kc ks i L xs Q) : A 17 M_lw_law 809 [some (.ref 2), some (.ref 20), some (.ref 100), some (.int (nI i))] [] G (kc + 8) (ks + 110) Q := by
  have hr := hC.root.1
  have op := @op_count M G np (xs (i + 1)) hC hI ho
  obtain ⟨r, M1, np1, hI1, ho1, oa, om⟩ := op
  refine A.aload_k 1 rfl rfl rfl d_lw_law_809 ?_
  refine A.aload_k 0 rfl rfl rfl d_lw_law_810 ?_
  refine A.iload_k 3 rfl rfl d_lw_law_811 ?_
  refine A.iconst (v := 1) rfl d_lw_law_812 ?_
  refine A.iadd d_lw_law_813 ?_
  apply A.iaload (j := i + 1) d_lw_law_814
  · repeat first | assumption | exact up_s | refine up_e (by first | decide | omega) ?_
  · exact ixk (k := 1) rfl (by omega)
  · omega
  refine A.callV1 s_lw_105 ?_ (Nat.le_of_ble_eq_true rfl) (Nat.le_of_ble_eq_true rfl) (Nat.le_of_ble_eq_true rfl) d_lw_law_815 rfl (oa _ (fun G1 hC1 hF1 => ?_))
  · apply Exists.intro
    repeat first | assumption | exact up_s | refine up_e (by first | decide | omega) ?_
  dsimp only [psh]
  have hM1 := hM.frC hF1
  have hO1 := hM1.1
  have h21 : G1 2 = some (aI L xs) := (hF1 2 (Or.inl rfl)).trans h2
  refine A.aload_k 2 rfl rfl rfl d_lw_law_818 ?_
  refine A.aload_k 0 rfl rfl rfl d_lw_law_819 ?_
  refine A.iload_k 3 rfl rfl d_lw_law_820 ?_
  refine A.iconst (v := 1) rfl d_lw_law_821 ?_
  refine A.iadd d_lw_law_822 ?_
  apply A.iaload (j := i + 1) d_lw_law_823
  · repeat first | assumption | exact up_s | refine up_e (by first | decide | omega) ?_
  · exact ixk (k := 1) rfl (by omega)
  · omega
  refine A.callV1 s_lw_108 ?_ (Nat.le_of_ble_eq_true rfl) (Nat.le_of_ble_eq_true rfl) (Nat.le_of_ble_eq_true rfl) d_lw_law_824 rfl (om G1 S C hM1 _ (fun G2 S2 C2 hM2 hF2 => ?_))
  · apply Exists.intro
    repeat first | assumption | exact up_s | refine up_e (by first | decide | omega) ?_
  dsimp only [psh]
  refine A.icmp_eq 832 (by decide) d_lw_law_827 (fun c827 => ?_) (fun c827 => ?_)
  · refine A.room (by omega) (by omega) (h G2 M1 S2 C2 np1 (hC1.frM hF2 hI1.1.2.1 (fun p _ => hI1.1.zle p)) hM2 hI1 ho1 ((hF2 2 (by omega)).trans h21))
  · exact absurd rfl c827
end LAW
