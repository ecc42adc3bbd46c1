/-! the law's loop -/
theorem inv_0 {h : XH} (i : INV h) : ∃ fs, h 0 = some (.inr (6, fs)) := by
  obtain ⟨_, _, _, _, _, _, _, _, _, _, _, _, _, _, _, _, _, _, _, _, _, _, _, _, _, _, A⟩ := i
  exact ⟨_, A.1.c0⟩
theorem xin {k j N : Nat} (hk : k + 6 ≤ N) (hN : N ≤ 384) (hj : j ≤ 5) : vp_in (nI k + nI j) N := by
  rw [nI_add]
  exact vp_inN (by omega) (by omega)
theorem xfit6 : XFit room_1 6 := ⟨by decide, by decide⟩
abbrev LL (k : Nat) : List (Option Value) := [some (.ref 1000000), some (.ref 0), some (.ref 98), some (.int (nI k))]
theorem inv_tree {a b c : Int32} {h : XH} (inv : INV h) : STEP mX6_tree mX7_tree [.int a, .int b, .int c] h := by
  obtain ⟨_, _, _, _, _, _, _, _, _, _, _, _, _, _, _, _, _, _, _, _, _, _, _, _, _, _, A⟩ := inv
  exact st_tree A
theorem inv_ladder {a b c : Int32} {h : XH} (inv : INV h) : STEP mX6_ladder mX7_ladder [.int a, .int b, .int c] h := by
  obtain ⟨_, _, _, _, _, _, _, _, _, _, _, _, _, _, _, _, _, _, _, _, _, _, _, _, _, _, A⟩ := inv
  exact st_ladder A
theorem inv_of {a b : Int32} {h : XH} (inv : INV h) : STEP mX6_of mX7_of [.int a, .int b] h := by
  obtain ⟨_, _, _, _, _, _, _, _, _, _, _, _, _, _, _, _, _, _, _, _, _, _, _, _, _, _, A⟩ := inv
  exact st_of A
theorem inv_at {a b : Int32} {h : XH} (inv : INV h) : STEP mX6_at mX7_at [.int a, .int b] h := by
  obtain ⟨_, _, _, _, _, _, _, _, _, _, _, _, _, _, _, _, _, _, _, _, _, _, _, _, _, _, A⟩ := inv
  exact st_at A
theorem inv_rule {a b : Int32} {h : XH} (inv : INV h) : STEP mX6_rule mX7_rule [.int a, .int b] h := by
  obtain ⟨_, _, _, _, _, _, _, _, _, _, _, _, _, _, _, _, _, _, _, _, _, _, _, _, _, _, A⟩ := inv
  exact st_rule A
theorem inv_type {a : Int32} {h : XH} (inv : INV h) : STEP mX6_type mX7_type [.int a] h := by
  obtain ⟨_, _, _, _, _, _, _, _, _, _, _, _, _, _, _, _, _, _, _, _, _, _, _, _, _, _, A⟩ := inv
  exact st_type A
theorem inv_orchard {h : XH} (inv : INV h) : STEP mX6_orchard mX7_orchard [] h := by
  obtain ⟨_, _, _, _, _, _, _, _, _, _, _, _, _, _, _, _, _, _, _, _, _, _, _, _, _, _, A⟩ := inv
  exact st_orchard A
theorem inv_count {a : Int32} {h : XH} (inv : INV h) : STEP mX6_count mX7_count [.int a] h := by
  obtain ⟨_, _, _, _, _, _, _, _, _, _, _, _, _, _, _, _, _, _, _, _, _, _, _, _, _, _, A⟩ := inv
  exact st_count A
theorem inv_days {a : Int32} {h : XH} (inv : INV h) : STEP mX6_days mX7_days [.int a] h := by
  obtain ⟨_, _, _, _, _, _, _, _, _, _, _, _, _, _, _, _, _, _, _, _, _, _, _, _, _, _, A⟩ := inv
  exact st_days A
theorem inv_lean {a b : Int32} {h : XH} (inv : INV h) : STEP mX6_lean mX7_lean [.int a, .int b] h := by
  obtain ⟨_, _, _, _, _, _, _, _, _, _, _, _, _, _, _, _, _, _, _, _, _, _, _, _, _, _, A⟩ := inv
  exact st_lean A
theorem inv_shake {a : Int32} {h : XH} (inv : INV h) : STEP mX6_shake mX7_shake [.int a] h := by
  obtain ⟨_, _, _, _, _, _, _, _, _, _, _, _, _, _, _, _, _, _, _, _, _, _, _, _, _, _, A⟩ := inv
  exact st_shake A
theorem inv_drift {a : Int32} {h : XH} (inv : INV h) : STEP mX6_drift mX7_drift [.int a] h := by
  obtain ⟨_, _, _, _, _, _, _, _, _, _, _, _, _, _, _, _, _, _, _, _, _, _, _, _, _, _, A⟩ := inv
  exact st_drift A
theorem inv_undo {h : XH} (inv : INV h) : STEP mX6_undo mX7_undo [] h := by
  obtain ⟨_, _, _, _, _, _, _, _, _, _, _, _, _, _, _, _, _, _, _, _, _, _, _, _, _, _, A⟩ := inv
  exact st_undo A
theorem inv_seed {a : Int32} {h : XH} (inv : INV h) : STEP mX6_seed mX7_seed [.int a] h := by
  obtain ⟨_, _, _, _, _, _, _, _, _, _, _, _, _, _, _, _, _, _, _, _, _, _, _, _, _, _, A⟩ := inv
  exact st_seed A
theorem inv_ahead {a b : Int32} {h : XH} (inv : INV h) : STEP mX6_ahead mX7_ahead [.int a, .int b] h := by
  obtain ⟨_, _, _, _, _, _, _, _, _, _, _, _, _, _, _, _, _, _, _, _, _, _, _, _, _, _, A⟩ := inv
  exact st_ahead A
theorem inv_fruit {a b : Int32} {h : XH} (inv : INV h) : STEP mX6_fruit mX7_fruit [.int a, .int b] h := by
  obtain ⟨_, _, _, _, _, _, _, _, _, _, _, _, _, _, _, _, _, _, _, _, _, _, _, _, _, _, A⟩ := inv
  exact st_fruit A
theorem inv_reached {a b : Int32} {h : XH} (inv : INV h) : STEP mX6_reached mX7_reached [.int a, .int b] h := by
  obtain ⟨_, _, _, _, _, _, _, _, _, _, _, _, _, _, _, _, _, _, _, _, _, _, _, _, _, _, A⟩ := inv
  exact st_reached A
theorem inv_gathered {h : XH} (inv : INV h) : STEP mX6_gathered mX7_gathered [] h := by
  obtain ⟨_, _, _, _, _, _, _, _, _, _, _, _, _, _, _, _, _, _, _, _, _, _, _, _, _, _, A⟩ := inv
  exact st_gathered A
theorem inv_plan {a b : Int32} {h : XH} (inv : INV h) : STEP mX6_plan mX7_plan [.int a, .int b] h := by
  obtain ⟨_, _, _, _, _, _, _, _, _, _, _, _, _, _, _, _, _, _, _, _, _, _, _, _, _, _, A⟩ := inv
  exact st_plan A
theorem inv_round {a b c : Int32} {h : XH} (inv : INV h) : STEP mX6_round mX7_round [.int a, .int b, .int c] h := by
  obtain ⟨_, _, _, _, _, _, _, _, _, _, _, _, _, _, _, _, _, _, _, _, _, _, _, _, _, _, A⟩ := inv
  exact st_round A
theorem inv_longer {a b : Int32} {h : XH} (inv : INV h) : STEP mX6_longer mX7_longer [.int a, .int b] h := by
  obtain ⟨_, _, _, _, _, _, _, _, _, _, _, _, _, _, _, _, _, _, _, _, _, _, _, _, _, _, A⟩ := inv
  exact st_longer A
theorem inv_larger {a b : Int32} {h : XH} (inv : INV h) : STEP mX6_larger mX7_larger [.int a, .int b] h := by
  obtain ⟨_, _, _, _, _, _, _, _, _, _, _, _, _, _, _, _, _, _, _, _, _, _, _, _, _, _, A⟩ := inv
  exact st_larger A
theorem inv_luck {a b c : Int32} {h : XH} (inv : INV h) : STEP mX6_luck mX7_luck [.int a, .int b, .int c] h := by
  obtain ⟨_, _, _, _, _, _, _, _, _, _, _, _, _, _, _, _, _, _, _, _, _, _, _, _, _, _, A⟩ := inv
  exact st_luck A
theorem inv_image {h : XH} (inv : INV h) : STEP mX6_image mX7_image [] h := by
  obtain ⟨_, _, _, _, _, _, _, _, _, _, _, _, _, _, _, _, _, _, _, _, _, _, _, _, _, _, A⟩ := inv
  exact st_image A
theorem inv_restore {h : XH} (inv : INV h) : STEP mX6_restore mX7_restore [] h := by
  obtain ⟨_, _, _, _, _, _, _, _, _, _, _, _, _, _, _, _, _, _, _, _, _, _, _, _, _, _, A⟩ := inv
  exact st_restore A
theorem inv_left {a b c i n : Int32} {h : XH} (inv : INV h) : STEP mX6_left mX7_left [.int a, .int b, .int c, .int i, .int n] h := by
  obtain ⟨_, _, _, _, _, _, _, _, _, _, _, _, _, _, _, _, _, _, _, _, _, _, _, _, _, _, A⟩ := inv
  exact st_left A
theorem inv_film {a n b c i : Int32} {h : XH} (inv : INV h) : STEP mX6_film mX7_film [.int a, .int n, .int b, .int c, .int i] h := by
  obtain ⟨_, _, _, _, _, _, _, _, _, _, _, _, _, _, _, _, _, _, _, _, _, _, _, _, _, _, A⟩ := inv
  exact st_film A
theorem inv_sheet {a b c : Int32} {h : XH} (inv : INV h) : STEP mX6_sheet mX7_sheet [.int a, .int b, .int c] h := by
  obtain ⟨_, _, _, _, _, _, _, _, _, _, _, _, _, _, _, _, _, _, _, _, _, _, _, _, _, _, A⟩ := inv
  exact st_sheet A
theorem inv_drop {a : Int32} {h : XH} (inv : INV h) : STEP mX6_drop mX7_drop [.int a] h := by
  obtain ⟨_, _, _, _, _, _, _, _, _, _, _, _, _, _, _, _, _, _, _, _, _, _, _, _, _, _, A⟩ := inv
  exact st_drop A
theorem inv_item {a b c : Int32} {v : Int64} {h : XH} (inv : INV h) : STEP mX6_item mX7_item [.int a, .int b, .int c, .long v] h := by
  obtain ⟨_, _, _, _, _, _, _, _, _, _, _, _, _, _, _, _, _, _, _, _, _, _, _, _, _, _, A⟩ := inv
  exact st_item A
theorem inv_copy {a i b j n : Int32} {h : XH} (inv : INV h) : STEP mX6_copy mX7_copy [.int a, .int i, .int b, .int j, .int n] h := by
  obtain ⟨_, _, _, _, _, _, _, _, _, _, _, _, _, _, _, _, _, _, _, _, _, _, _, _, _, _, A⟩ := inv
  exact st_copy A
theorem lc_tree {κ1 κ2 : Nat} (hκ : κ1 ≤ room_1.cells ∧ κ2 ≤ room_1.slots) {xs : Nat → Int32} {N k : Nat} {h : XH} {Q : Option Value → XH → Prop} (hN : N ≤ 384) (hk : k + 6 ≤ N) (inv : INV h) (K : ∀ h2, INV h2 → X (xScr xs N) mL_law room_1 (κ1, κ2) 1215 (LL k) [] h2 Q) : X (xScr xs N) mL_law room_1 (κ1, κ2) 172 (LL k) [] h Q := by
  obtain ⟨fs0, z0⟩ := inv_0 inv
  refine X.aload iL_law_172 rfl ?_
  refine X.aload iL_law_173 rfl ?_
  refine X.iload iL_law_174 rfl ?_
  refine X.pushi (v := nI 1) iL_law_175 ?_
  refine X.iadd iL_law_176 ?_
  refine X.sld iL_law_177 (xin hk hN (by decide)) ?_
  refine X.aload iL_law_178 rfl ?_
  refine X.iload iL_law_179 rfl ?_
  refine X.pushi (v := nI 2) iL_law_180 ?_
  refine X.iadd iL_law_181 ?_
  refine X.sld iL_law_182 (xin hk hN (by decide)) ?_
  refine X.aload iL_law_183 rfl ?_
  refine X.iload iL_law_184 rfl ?_
  refine X.pushi (v := nI 3) iL_law_185 ?_
  refine X.iadd iL_law_186 ?_
  refine X.sld iL_law_187 (xin hk hN (by decide)) ?_
  obtain ⟨r, Q1, C1, K1⟩ := inv_tree (a := (xs (nI k + nI 1).toNatClampNeg)) (b := (xs (nI k + nI 2).toNatClampNeg)) (c := (xs (nI k + nI 3).toNatClampNeg)) inv
  refine X.callV iL_law_188 C1 z0 rfl rfl xfit6 (Nat.le_of_ble_eq_true rfl) hκ ?_
  intro v1 h1 hq
  obtain ⟨rfl, ⟨fs, z98⟩, Q2, C2, K2⟩ := K1 v1 h1 hq
  refine X.aload iL_law_191 rfl ?_
  refine X.aload iL_law_192 rfl ?_
  refine X.iload iL_law_193 rfl ?_
  refine X.pushi (v := nI 1) iL_law_194 ?_
  refine X.iadd iL_law_195 ?_
  refine X.sld iL_law_196 (xin hk hN (by decide)) ?_
  refine X.aload iL_law_197 rfl ?_
  refine X.iload iL_law_198 rfl ?_
  refine X.pushi (v := nI 2) iL_law_199 ?_
  refine X.iadd iL_law_200 ?_
  refine X.sld iL_law_201 (xin hk hN (by decide)) ?_
  refine X.aload iL_law_202 rfl ?_
  refine X.iload iL_law_203 rfl ?_
  refine X.pushi (v := nI 3) iL_law_204 ?_
  refine X.iadd iL_law_205 ?_
  refine X.sld iL_law_206 (xin hk hN (by decide)) ?_
  refine X.callV iL_law_207 C2 z98 rfl rfl xfit6 (Nat.le_of_ble_eq_true rfl) hκ ?_
  intro v2 h2 hq2
  obtain ⟨rfl, inv2⟩ := K2 v2 h2 hq2
  refine X.cmeq iL_law_210 (fun c => ?_) (fun c => ?_)
  · exact K h2 inv2
  · exact absurd rfl c
theorem lc_ladder {κ1 κ2 : Nat} (hκ : κ1 ≤ room_1.cells ∧ κ2 ≤ room_1.slots) {xs : Nat → Int32} {N k : Nat} {h : XH} {Q : Option Value → XH → Prop} (hN : N ≤ 384) (hk : k + 6 ≤ N) (inv : INV h) (K : ∀ h2, INV h2 → X (xScr xs N) mL_law room_1 (κ1, κ2) 1215 (LL k) [] h2 Q) : X (xScr xs N) mL_law room_1 (κ1, κ2) 215 (LL k) [] h Q := by
  obtain ⟨fs0, z0⟩ := inv_0 inv
  refine X.aload iL_law_215 rfl ?_
  refine X.aload iL_law_216 rfl ?_
  refine X.iload iL_law_217 rfl ?_
  refine X.pushi (v := nI 1) iL_law_218 ?_
  refine X.iadd iL_law_219 ?_
  refine X.sld iL_law_220 (xin hk hN (by decide)) ?_
  refine X.aload iL_law_221 rfl ?_
  refine X.iload iL_law_222 rfl ?_
  refine X.pushi (v := nI 2) iL_law_223 ?_
  refine X.iadd iL_law_224 ?_
  refine X.sld iL_law_225 (xin hk hN (by decide)) ?_
  refine X.aload iL_law_226 rfl ?_
  refine X.iload iL_law_227 rfl ?_
  refine X.pushi (v := nI 3) iL_law_228 ?_
  refine X.iadd iL_law_229 ?_
  refine X.sld iL_law_230 (xin hk hN (by decide)) ?_
  obtain ⟨r, Q1, C1, K1⟩ := inv_ladder (a := (xs (nI k + nI 1).toNatClampNeg)) (b := (xs (nI k + nI 2).toNatClampNeg)) (c := (xs (nI k + nI 3).toNatClampNeg)) inv
  refine X.callV iL_law_231 C1 z0 rfl rfl xfit6 (Nat.le_of_ble_eq_true rfl) hκ ?_
  intro v1 h1 hq
  obtain ⟨rfl, ⟨fs, z98⟩, Q2, C2, K2⟩ := K1 v1 h1 hq
  refine X.aload iL_law_234 rfl ?_
  refine X.aload iL_law_235 rfl ?_
  refine X.iload iL_law_236 rfl ?_
  refine X.pushi (v := nI 1) iL_law_237 ?_
  refine X.iadd iL_law_238 ?_
  refine X.sld iL_law_239 (xin hk hN (by decide)) ?_
  refine X.aload iL_law_240 rfl ?_
  refine X.iload iL_law_241 rfl ?_
  refine X.pushi (v := nI 2) iL_law_242 ?_
  refine X.iadd iL_law_243 ?_
  refine X.sld iL_law_244 (xin hk hN (by decide)) ?_
  refine X.aload iL_law_245 rfl ?_
  refine X.iload iL_law_246 rfl ?_
  refine X.pushi (v := nI 3) iL_law_247 ?_
  refine X.iadd iL_law_248 ?_
  refine X.sld iL_law_249 (xin hk hN (by decide)) ?_
  refine X.callV iL_law_250 C2 z98 rfl rfl xfit6 (Nat.le_of_ble_eq_true rfl) hκ ?_
  intro v2 h2 hq2
  obtain ⟨rfl, inv2⟩ := K2 v2 h2 hq2
  refine X.cmeq iL_law_253 (fun c => ?_) (fun c => ?_)
  · exact K h2 inv2
  · exact absurd rfl c
theorem lc_of {κ1 κ2 : Nat} (hκ : κ1 ≤ room_1.cells ∧ κ2 ≤ room_1.slots) {xs : Nat → Int32} {N k : Nat} {h : XH} {Q : Option Value → XH → Prop} (hN : N ≤ 384) (hk : k + 6 ≤ N) (inv : INV h) (K : ∀ h2, INV h2 → X (xScr xs N) mL_law room_1 (κ1, κ2) 1215 (LL k) [] h2 Q) : X (xScr xs N) mL_law room_1 (κ1, κ2) 258 (LL k) [] h Q := by
  obtain ⟨fs0, z0⟩ := inv_0 inv
  refine X.aload iL_law_258 rfl ?_
  refine X.aload iL_law_259 rfl ?_
  refine X.iload iL_law_260 rfl ?_
  refine X.pushi (v := nI 1) iL_law_261 ?_
  refine X.iadd iL_law_262 ?_
  refine X.sld iL_law_263 (xin hk hN (by decide)) ?_
  refine X.aload iL_law_264 rfl ?_
  refine X.iload iL_law_265 rfl ?_
  refine X.pushi (v := nI 2) iL_law_266 ?_
  refine X.iadd iL_law_267 ?_
  refine X.sld iL_law_268 (xin hk hN (by decide)) ?_
  obtain ⟨r, Q1, C1, K1⟩ := inv_of (a := (xs (nI k + nI 1).toNatClampNeg)) (b := (xs (nI k + nI 2).toNatClampNeg)) inv
  refine X.callV iL_law_269 C1 z0 rfl rfl xfit6 (Nat.le_of_ble_eq_true rfl) hκ ?_
  intro v1 h1 hq
  obtain ⟨rfl, ⟨fs, z98⟩, Q2, C2, K2⟩ := K1 v1 h1 hq
  refine X.aload iL_law_272 rfl ?_
  refine X.aload iL_law_273 rfl ?_
  refine X.iload iL_law_274 rfl ?_
  refine X.pushi (v := nI 1) iL_law_275 ?_
  refine X.iadd iL_law_276 ?_
  refine X.sld iL_law_277 (xin hk hN (by decide)) ?_
  refine X.aload iL_law_278 rfl ?_
  refine X.iload iL_law_279 rfl ?_
  refine X.pushi (v := nI 2) iL_law_280 ?_
  refine X.iadd iL_law_281 ?_
  refine X.sld iL_law_282 (xin hk hN (by decide)) ?_
  refine X.callV iL_law_283 C2 z98 rfl rfl xfit6 (Nat.le_of_ble_eq_true rfl) hκ ?_
  intro v2 h2 hq2
  obtain ⟨rfl, inv2⟩ := K2 v2 h2 hq2
  refine X.cmeq iL_law_286 (fun c => ?_) (fun c => ?_)
  · exact K h2 inv2
  · exact absurd rfl c
theorem lc_at {κ1 κ2 : Nat} (hκ : κ1 ≤ room_1.cells ∧ κ2 ≤ room_1.slots) {xs : Nat → Int32} {N k : Nat} {h : XH} {Q : Option Value → XH → Prop} (hN : N ≤ 384) (hk : k + 6 ≤ N) (inv : INV h) (K : ∀ h2, INV h2 → X (xScr xs N) mL_law room_1 (κ1, κ2) 1215 (LL k) [] h2 Q) : X (xScr xs N) mL_law room_1 (κ1, κ2) 291 (LL k) [] h Q := by
  obtain ⟨fs0, z0⟩ := inv_0 inv
  refine X.aload iL_law_291 rfl ?_
  refine X.aload iL_law_292 rfl ?_
  refine X.iload iL_law_293 rfl ?_
  refine X.pushi (v := nI 1) iL_law_294 ?_
  refine X.iadd iL_law_295 ?_
  refine X.sld iL_law_296 (xin hk hN (by decide)) ?_
  refine X.aload iL_law_297 rfl ?_
  refine X.iload iL_law_298 rfl ?_
  refine X.pushi (v := nI 2) iL_law_299 ?_
  refine X.iadd iL_law_300 ?_
  refine X.sld iL_law_301 (xin hk hN (by decide)) ?_
  obtain ⟨r, Q1, C1, K1⟩ := inv_at (a := (xs (nI k + nI 1).toNatClampNeg)) (b := (xs (nI k + nI 2).toNatClampNeg)) inv
  refine X.callV iL_law_302 C1 z0 rfl rfl xfit6 (Nat.le_of_ble_eq_true rfl) hκ ?_
  intro v1 h1 hq
  obtain ⟨rfl, ⟨fs, z98⟩, Q2, C2, K2⟩ := K1 v1 h1 hq
  refine X.aload iL_law_305 rfl ?_
  refine X.aload iL_law_306 rfl ?_
  refine X.iload iL_law_307 rfl ?_
  refine X.pushi (v := nI 1) iL_law_308 ?_
  refine X.iadd iL_law_309 ?_
  refine X.sld iL_law_310 (xin hk hN (by decide)) ?_
  refine X.aload iL_law_311 rfl ?_
  refine X.iload iL_law_312 rfl ?_
  refine X.pushi (v := nI 2) iL_law_313 ?_
  refine X.iadd iL_law_314 ?_
  refine X.sld iL_law_315 (xin hk hN (by decide)) ?_
  refine X.callV iL_law_316 C2 z98 rfl rfl xfit6 (Nat.le_of_ble_eq_true rfl) hκ ?_
  intro v2 h2 hq2
  obtain ⟨rfl, inv2⟩ := K2 v2 h2 hq2
  refine X.cmeq iL_law_319 (fun c => ?_) (fun c => ?_)
  · exact K h2 inv2
  · exact absurd rfl c
theorem lc_rule {κ1 κ2 : Nat} (hκ : κ1 ≤ room_1.cells ∧ κ2 ≤ room_1.slots) {xs : Nat → Int32} {N k : Nat} {h : XH} {Q : Option Value → XH → Prop} (hN : N ≤ 384) (hk : k + 6 ≤ N) (inv : INV h) (K : ∀ h2, INV h2 → X (xScr xs N) mL_law room_1 (κ1, κ2) 1215 (LL k) [] h2 Q) : X (xScr xs N) mL_law room_1 (κ1, κ2) 324 (LL k) [] h Q := by
  obtain ⟨fs0, z0⟩ := inv_0 inv
  refine X.aload iL_law_324 rfl ?_
  refine X.aload iL_law_325 rfl ?_
  refine X.iload iL_law_326 rfl ?_
  refine X.pushi (v := nI 1) iL_law_327 ?_
  refine X.iadd iL_law_328 ?_
  refine X.sld iL_law_329 (xin hk hN (by decide)) ?_
  refine X.aload iL_law_330 rfl ?_
  refine X.iload iL_law_331 rfl ?_
  refine X.pushi (v := nI 2) iL_law_332 ?_
  refine X.iadd iL_law_333 ?_
  refine X.sld iL_law_334 (xin hk hN (by decide)) ?_
  obtain ⟨r, Q1, C1, K1⟩ := inv_rule (a := (xs (nI k + nI 1).toNatClampNeg)) (b := (xs (nI k + nI 2).toNatClampNeg)) inv
  refine X.callV iL_law_335 C1 z0 rfl rfl xfit6 (Nat.le_of_ble_eq_true rfl) hκ ?_
  intro v1 h1 hq
  obtain ⟨rfl, ⟨fs, z98⟩, Q2, C2, K2⟩ := K1 v1 h1 hq
  refine X.aload iL_law_338 rfl ?_
  refine X.aload iL_law_339 rfl ?_
  refine X.iload iL_law_340 rfl ?_
  refine X.pushi (v := nI 1) iL_law_341 ?_
  refine X.iadd iL_law_342 ?_
  refine X.sld iL_law_343 (xin hk hN (by decide)) ?_
  refine X.aload iL_law_344 rfl ?_
  refine X.iload iL_law_345 rfl ?_
  refine X.pushi (v := nI 2) iL_law_346 ?_
  refine X.iadd iL_law_347 ?_
  refine X.sld iL_law_348 (xin hk hN (by decide)) ?_
  refine X.callV iL_law_349 C2 z98 rfl rfl xfit6 (Nat.le_of_ble_eq_true rfl) hκ ?_
  intro v2 h2 hq2
  obtain ⟨rfl, inv2⟩ := K2 v2 h2 hq2
  refine X.cmeq iL_law_352 (fun c => ?_) (fun c => ?_)
  · exact K h2 inv2
  · exact absurd rfl c
theorem lc_type {κ1 κ2 : Nat} (hκ : κ1 ≤ room_1.cells ∧ κ2 ≤ room_1.slots) {xs : Nat → Int32} {N k : Nat} {h : XH} {Q : Option Value → XH → Prop} (hN : N ≤ 384) (hk : k + 6 ≤ N) (inv : INV h) (K : ∀ h2, INV h2 → X (xScr xs N) mL_law room_1 (κ1, κ2) 1215 (LL k) [] h2 Q) : X (xScr xs N) mL_law room_1 (κ1, κ2) 357 (LL k) [] h Q := by
  obtain ⟨fs0, z0⟩ := inv_0 inv
  refine X.aload iL_law_357 rfl ?_
  refine X.aload iL_law_358 rfl ?_
  refine X.iload iL_law_359 rfl ?_
  refine X.pushi (v := nI 1) iL_law_360 ?_
  refine X.iadd iL_law_361 ?_
  refine X.sld iL_law_362 (xin hk hN (by decide)) ?_
  obtain ⟨r, Q1, C1, K1⟩ := inv_type (a := (xs (nI k + nI 1).toNatClampNeg)) inv
  refine X.callV iL_law_363 C1 z0 rfl rfl xfit6 (Nat.le_of_ble_eq_true rfl) hκ ?_
  intro v1 h1 hq
  obtain ⟨rfl, ⟨fs, z98⟩, Q2, C2, K2⟩ := K1 v1 h1 hq
  refine X.aload iL_law_366 rfl ?_
  refine X.aload iL_law_367 rfl ?_
  refine X.iload iL_law_368 rfl ?_
  refine X.pushi (v := nI 1) iL_law_369 ?_
  refine X.iadd iL_law_370 ?_
  refine X.sld iL_law_371 (xin hk hN (by decide)) ?_
  refine X.callV iL_law_372 C2 z98 rfl rfl xfit6 (Nat.le_of_ble_eq_true rfl) hκ ?_
  intro v2 h2 hq2
  obtain ⟨rfl, inv2⟩ := K2 v2 h2 hq2
  refine X.cmeq iL_law_375 (fun c => ?_) (fun c => ?_)
  · exact K h2 inv2
  · exact absurd rfl c
theorem lc_orchard {κ1 κ2 : Nat} (hκ : κ1 ≤ room_1.cells ∧ κ2 ≤ room_1.slots) {xs : Nat → Int32} {N k : Nat} {h : XH} {Q : Option Value → XH → Prop} (hN : N ≤ 384) (hk : k + 6 ≤ N) (inv : INV h) (K : ∀ h2, INV h2 → X (xScr xs N) mL_law room_1 (κ1, κ2) 1215 (LL k) [] h2 Q) : X (xScr xs N) mL_law room_1 (κ1, κ2) 380 (LL k) [] h Q := by
  obtain ⟨fs0, z0⟩ := inv_0 inv
  refine X.aload iL_law_380 rfl ?_
  obtain ⟨r, Q1, C1, K1⟩ := inv_orchard  inv
  refine X.callV iL_law_381 C1 z0 rfl rfl xfit6 (Nat.le_of_ble_eq_true rfl) hκ ?_
  intro v1 h1 hq
  obtain ⟨rfl, ⟨fs, z98⟩, Q2, C2, K2⟩ := K1 v1 h1 hq
  refine X.aload iL_law_384 rfl ?_
  refine X.callV iL_law_385 C2 z98 rfl rfl xfit6 (Nat.le_of_ble_eq_true rfl) hκ ?_
  intro v2 h2 hq2
  obtain ⟨rfl, inv2⟩ := K2 v2 h2 hq2
  refine X.cmeq iL_law_388 (fun c => ?_) (fun c => ?_)
  · exact K h2 inv2
  · exact absurd rfl c
theorem lc_count {κ1 κ2 : Nat} (hκ : κ1 ≤ room_1.cells ∧ κ2 ≤ room_1.slots) {xs : Nat → Int32} {N k : Nat} {h : XH} {Q : Option Value → XH → Prop} (hN : N ≤ 384) (hk : k + 6 ≤ N) (inv : INV h) (K : ∀ h2, INV h2 → X (xScr xs N) mL_law room_1 (κ1, κ2) 1215 (LL k) [] h2 Q) : X (xScr xs N) mL_law room_1 (κ1, κ2) 393 (LL k) [] h Q := by
  obtain ⟨fs0, z0⟩ := inv_0 inv
  refine X.aload iL_law_393 rfl ?_
  refine X.aload iL_law_394 rfl ?_
  refine X.iload iL_law_395 rfl ?_
  refine X.pushi (v := nI 1) iL_law_396 ?_
  refine X.iadd iL_law_397 ?_
  refine X.sld iL_law_398 (xin hk hN (by decide)) ?_
  obtain ⟨r, Q1, C1, K1⟩ := inv_count (a := (xs (nI k + nI 1).toNatClampNeg)) inv
  refine X.callV iL_law_399 C1 z0 rfl rfl xfit6 (Nat.le_of_ble_eq_true rfl) hκ ?_
  intro v1 h1 hq
  obtain ⟨rfl, ⟨fs, z98⟩, Q2, C2, K2⟩ := K1 v1 h1 hq
  refine X.aload iL_law_402 rfl ?_
  refine X.aload iL_law_403 rfl ?_
  refine X.iload iL_law_404 rfl ?_
  refine X.pushi (v := nI 1) iL_law_405 ?_
  refine X.iadd iL_law_406 ?_
  refine X.sld iL_law_407 (xin hk hN (by decide)) ?_
  refine X.callV iL_law_408 C2 z98 rfl rfl xfit6 (Nat.le_of_ble_eq_true rfl) hκ ?_
  intro v2 h2 hq2
  obtain ⟨rfl, inv2⟩ := K2 v2 h2 hq2
  refine X.cmeq iL_law_411 (fun c => ?_) (fun c => ?_)
  · exact K h2 inv2
  · exact absurd rfl c
theorem lc_days {κ1 κ2 : Nat} (hκ : κ1 ≤ room_1.cells ∧ κ2 ≤ room_1.slots) {xs : Nat → Int32} {N k : Nat} {h : XH} {Q : Option Value → XH → Prop} (hN : N ≤ 384) (hk : k + 6 ≤ N) (inv : INV h) (K : ∀ h2, INV h2 → X (xScr xs N) mL_law room_1 (κ1, κ2) 1215 (LL k) [] h2 Q) : X (xScr xs N) mL_law room_1 (κ1, κ2) 416 (LL k) [] h Q := by
  obtain ⟨fs0, z0⟩ := inv_0 inv
  refine X.aload iL_law_416 rfl ?_
  refine X.aload iL_law_417 rfl ?_
  refine X.iload iL_law_418 rfl ?_
  refine X.pushi (v := nI 1) iL_law_419 ?_
  refine X.iadd iL_law_420 ?_
  refine X.sld iL_law_421 (xin hk hN (by decide)) ?_
  obtain ⟨r, Q1, C1, K1⟩ := inv_days (a := (xs (nI k + nI 1).toNatClampNeg)) inv
  refine X.callV iL_law_422 C1 z0 rfl rfl xfit6 (Nat.le_of_ble_eq_true rfl) hκ ?_
  intro v1 h1 hq
  obtain ⟨rfl, ⟨fs, z98⟩, Q2, C2, K2⟩ := K1 v1 h1 hq
  refine X.aload iL_law_425 rfl ?_
  refine X.aload iL_law_426 rfl ?_
  refine X.iload iL_law_427 rfl ?_
  refine X.pushi (v := nI 1) iL_law_428 ?_
  refine X.iadd iL_law_429 ?_
  refine X.sld iL_law_430 (xin hk hN (by decide)) ?_
  refine X.callV iL_law_431 C2 z98 rfl rfl xfit6 (Nat.le_of_ble_eq_true rfl) hκ ?_
  intro v2 h2 hq2
  obtain ⟨rfl, inv2⟩ := K2 v2 h2 hq2
  refine X.cmeq iL_law_434 (fun c => ?_) (fun c => ?_)
  · exact K h2 inv2
  · exact absurd rfl c
theorem lc_lean {κ1 κ2 : Nat} (hκ : κ1 ≤ room_1.cells ∧ κ2 ≤ room_1.slots) {xs : Nat → Int32} {N k : Nat} {h : XH} {Q : Option Value → XH → Prop} (hN : N ≤ 384) (hk : k + 6 ≤ N) (inv : INV h) (K : ∀ h2, INV h2 → X (xScr xs N) mL_law room_1 (κ1, κ2) 1215 (LL k) [] h2 Q) : X (xScr xs N) mL_law room_1 (κ1, κ2) 439 (LL k) [] h Q := by
  obtain ⟨fs0, z0⟩ := inv_0 inv
  refine X.aload iL_law_439 rfl ?_
  refine X.aload iL_law_440 rfl ?_
  refine X.iload iL_law_441 rfl ?_
  refine X.pushi (v := nI 1) iL_law_442 ?_
  refine X.iadd iL_law_443 ?_
  refine X.sld iL_law_444 (xin hk hN (by decide)) ?_
  refine X.aload iL_law_445 rfl ?_
  refine X.iload iL_law_446 rfl ?_
  refine X.pushi (v := nI 2) iL_law_447 ?_
  refine X.iadd iL_law_448 ?_
  refine X.sld iL_law_449 (xin hk hN (by decide)) ?_
  obtain ⟨r, Q1, C1, K1⟩ := inv_lean (a := (xs (nI k + nI 1).toNatClampNeg)) (b := (xs (nI k + nI 2).toNatClampNeg)) inv
  refine X.callV iL_law_450 C1 z0 rfl rfl xfit6 (Nat.le_of_ble_eq_true rfl) hκ ?_
  intro v1 h1 hq
  obtain ⟨rfl, ⟨fs, z98⟩, Q2, C2, K2⟩ := K1 v1 h1 hq
  refine X.aload iL_law_453 rfl ?_
  refine X.aload iL_law_454 rfl ?_
  refine X.iload iL_law_455 rfl ?_
  refine X.pushi (v := nI 1) iL_law_456 ?_
  refine X.iadd iL_law_457 ?_
  refine X.sld iL_law_458 (xin hk hN (by decide)) ?_
  refine X.aload iL_law_459 rfl ?_
  refine X.iload iL_law_460 rfl ?_
  refine X.pushi (v := nI 2) iL_law_461 ?_
  refine X.iadd iL_law_462 ?_
  refine X.sld iL_law_463 (xin hk hN (by decide)) ?_
  refine X.callV iL_law_464 C2 z98 rfl rfl xfit6 (Nat.le_of_ble_eq_true rfl) hκ ?_
  intro v2 h2 hq2
  obtain ⟨rfl, inv2⟩ := K2 v2 h2 hq2
  refine X.cmeq iL_law_467 (fun c => ?_) (fun c => ?_)
  · exact K h2 inv2
  · exact absurd rfl c
theorem lc_shake {κ1 κ2 : Nat} (hκ : κ1 ≤ room_1.cells ∧ κ2 ≤ room_1.slots) {xs : Nat → Int32} {N k : Nat} {h : XH} {Q : Option Value → XH → Prop} (hN : N ≤ 384) (hk : k + 6 ≤ N) (inv : INV h) (K : ∀ h2, INV h2 → X (xScr xs N) mL_law room_1 (κ1, κ2) 1215 (LL k) [] h2 Q) : X (xScr xs N) mL_law room_1 (κ1, κ2) 472 (LL k) [] h Q := by
  obtain ⟨fs0, z0⟩ := inv_0 inv
  refine X.aload iL_law_472 rfl ?_
  refine X.aload iL_law_473 rfl ?_
  refine X.iload iL_law_474 rfl ?_
  refine X.pushi (v := nI 1) iL_law_475 ?_
  refine X.iadd iL_law_476 ?_
  refine X.sld iL_law_477 (xin hk hN (by decide)) ?_
  obtain ⟨r, Q1, C1, K1⟩ := inv_shake (a := (xs (nI k + nI 1).toNatClampNeg)) inv
  refine X.callV iL_law_478 C1 z0 rfl rfl xfit6 (Nat.le_of_ble_eq_true rfl) hκ ?_
  intro v1 h1 hq
  obtain ⟨rfl, ⟨fs, z98⟩, Q2, C2, K2⟩ := K1 v1 h1 hq
  refine X.aload iL_law_481 rfl ?_
  refine X.aload iL_law_482 rfl ?_
  refine X.iload iL_law_483 rfl ?_
  refine X.pushi (v := nI 1) iL_law_484 ?_
  refine X.iadd iL_law_485 ?_
  refine X.sld iL_law_486 (xin hk hN (by decide)) ?_
  refine X.callV iL_law_487 C2 z98 rfl rfl xfit6 (Nat.le_of_ble_eq_true rfl) hκ ?_
  intro v2 h2 hq2
  obtain ⟨rfl, inv2⟩ := K2 v2 h2 hq2
  refine X.cmeq iL_law_490 (fun c => ?_) (fun c => ?_)
  · exact K h2 inv2
  · exact absurd rfl c
theorem lc_drift {κ1 κ2 : Nat} (hκ : κ1 ≤ room_1.cells ∧ κ2 ≤ room_1.slots) {xs : Nat → Int32} {N k : Nat} {h : XH} {Q : Option Value → XH → Prop} (hN : N ≤ 384) (hk : k + 6 ≤ N) (inv : INV h) (K : ∀ h2, INV h2 → X (xScr xs N) mL_law room_1 (κ1, κ2) 1215 (LL k) [] h2 Q) : X (xScr xs N) mL_law room_1 (κ1, κ2) 495 (LL k) [] h Q := by
  obtain ⟨fs0, z0⟩ := inv_0 inv
  refine X.aload iL_law_495 rfl ?_
  refine X.aload iL_law_496 rfl ?_
  refine X.iload iL_law_497 rfl ?_
  refine X.pushi (v := nI 1) iL_law_498 ?_
  refine X.iadd iL_law_499 ?_
  refine X.sld iL_law_500 (xin hk hN (by decide)) ?_
  obtain ⟨r, Q1, C1, K1⟩ := inv_drift (a := (xs (nI k + nI 1).toNatClampNeg)) inv
  refine X.callV iL_law_501 C1 z0 rfl rfl xfit6 (Nat.le_of_ble_eq_true rfl) hκ ?_
  intro v1 h1 hq
  obtain ⟨rfl, ⟨fs, z98⟩, Q2, C2, K2⟩ := K1 v1 h1 hq
  refine X.aload iL_law_504 rfl ?_
  refine X.aload iL_law_505 rfl ?_
  refine X.iload iL_law_506 rfl ?_
  refine X.pushi (v := nI 1) iL_law_507 ?_
  refine X.iadd iL_law_508 ?_
  refine X.sld iL_law_509 (xin hk hN (by decide)) ?_
  refine X.callV iL_law_510 C2 z98 rfl rfl xfit6 (Nat.le_of_ble_eq_true rfl) hκ ?_
  intro v2 h2 hq2
  obtain ⟨rfl, inv2⟩ := K2 v2 h2 hq2
  refine X.cmeq iL_law_513 (fun c => ?_) (fun c => ?_)
  · exact K h2 inv2
  · exact absurd rfl c
theorem lc_undo {κ1 κ2 : Nat} (hκ : κ1 ≤ room_1.cells ∧ κ2 ≤ room_1.slots) {xs : Nat → Int32} {N k : Nat} {h : XH} {Q : Option Value → XH → Prop} (hN : N ≤ 384) (hk : k + 6 ≤ N) (inv : INV h) (K : ∀ h2, INV h2 → X (xScr xs N) mL_law room_1 (κ1, κ2) 1215 (LL k) [] h2 Q) : X (xScr xs N) mL_law room_1 (κ1, κ2) 518 (LL k) [] h Q := by
  obtain ⟨fs0, z0⟩ := inv_0 inv
  refine X.aload iL_law_518 rfl ?_
  obtain ⟨r, Q1, C1, K1⟩ := inv_undo  inv
  refine X.callV iL_law_519 C1 z0 rfl rfl xfit6 (Nat.le_of_ble_eq_true rfl) hκ ?_
  intro v1 h1 hq
  obtain ⟨rfl, ⟨fs, z98⟩, Q2, C2, K2⟩ := K1 v1 h1 hq
  refine X.aload iL_law_522 rfl ?_
  refine X.callV iL_law_523 C2 z98 rfl rfl xfit6 (Nat.le_of_ble_eq_true rfl) hκ ?_
  intro v2 h2 hq2
  obtain ⟨rfl, inv2⟩ := K2 v2 h2 hq2
  refine X.cmeq iL_law_526 (fun c => ?_) (fun c => ?_)
  · exact K h2 inv2
  · exact absurd rfl c
theorem lc_seed {κ1 κ2 : Nat} (hκ : κ1 ≤ room_1.cells ∧ κ2 ≤ room_1.slots) {xs : Nat → Int32} {N k : Nat} {h : XH} {Q : Option Value → XH → Prop} (hN : N ≤ 384) (hk : k + 6 ≤ N) (inv : INV h) (K : ∀ h2, INV h2 → X (xScr xs N) mL_law room_1 (κ1, κ2) 1215 (LL k) [] h2 Q) : X (xScr xs N) mL_law room_1 (κ1, κ2) 531 (LL k) [] h Q := by
  obtain ⟨fs0, z0⟩ := inv_0 inv
  refine X.aload iL_law_531 rfl ?_
  refine X.aload iL_law_532 rfl ?_
  refine X.iload iL_law_533 rfl ?_
  refine X.pushi (v := nI 1) iL_law_534 ?_
  refine X.iadd iL_law_535 ?_
  refine X.sld iL_law_536 (xin hk hN (by decide)) ?_
  obtain ⟨r, Q1, C1, K1⟩ := inv_seed (a := (xs (nI k + nI 1).toNatClampNeg)) inv
  refine X.callV iL_law_537 C1 z0 rfl rfl xfit6 (Nat.le_of_ble_eq_true rfl) hκ ?_
  intro v1 h1 hq
  obtain ⟨rfl, ⟨fs, z98⟩, Q2, C2, K2⟩ := K1 v1 h1 hq
  refine X.aload iL_law_540 rfl ?_
  refine X.aload iL_law_541 rfl ?_
  refine X.iload iL_law_542 rfl ?_
  refine X.pushi (v := nI 1) iL_law_543 ?_
  refine X.iadd iL_law_544 ?_
  refine X.sld iL_law_545 (xin hk hN (by decide)) ?_
  refine X.callV iL_law_546 C2 z98 rfl rfl xfit6 (Nat.le_of_ble_eq_true rfl) hκ ?_
  intro v2 h2 hq2
  obtain ⟨rfl, inv2⟩ := K2 v2 h2 hq2
  refine X.cmeq iL_law_549 (fun c => ?_) (fun c => ?_)
  · exact K h2 inv2
  · exact absurd rfl c
theorem lc_ahead {κ1 κ2 : Nat} (hκ : κ1 ≤ room_1.cells ∧ κ2 ≤ room_1.slots) {xs : Nat → Int32} {N k : Nat} {h : XH} {Q : Option Value → XH → Prop} (hN : N ≤ 384) (hk : k + 6 ≤ N) (inv : INV h) (K : ∀ h2, INV h2 → X (xScr xs N) mL_law room_1 (κ1, κ2) 1215 (LL k) [] h2 Q) : X (xScr xs N) mL_law room_1 (κ1, κ2) 554 (LL k) [] h Q := by
  obtain ⟨fs0, z0⟩ := inv_0 inv
  refine X.aload iL_law_554 rfl ?_
  refine X.aload iL_law_555 rfl ?_
  refine X.iload iL_law_556 rfl ?_
  refine X.pushi (v := nI 1) iL_law_557 ?_
  refine X.iadd iL_law_558 ?_
  refine X.sld iL_law_559 (xin hk hN (by decide)) ?_
  refine X.aload iL_law_560 rfl ?_
  refine X.iload iL_law_561 rfl ?_
  refine X.pushi (v := nI 2) iL_law_562 ?_
  refine X.iadd iL_law_563 ?_
  refine X.sld iL_law_564 (xin hk hN (by decide)) ?_
  obtain ⟨r, Q1, C1, K1⟩ := inv_ahead (a := (xs (nI k + nI 1).toNatClampNeg)) (b := (xs (nI k + nI 2).toNatClampNeg)) inv
  refine X.callV iL_law_565 C1 z0 rfl rfl xfit6 (Nat.le_of_ble_eq_true rfl) hκ ?_
  intro v1 h1 hq
  obtain ⟨rfl, ⟨fs, z98⟩, Q2, C2, K2⟩ := K1 v1 h1 hq
  refine X.aload iL_law_568 rfl ?_
  refine X.aload iL_law_569 rfl ?_
  refine X.iload iL_law_570 rfl ?_
  refine X.pushi (v := nI 1) iL_law_571 ?_
  refine X.iadd iL_law_572 ?_
  refine X.sld iL_law_573 (xin hk hN (by decide)) ?_
  refine X.aload iL_law_574 rfl ?_
  refine X.iload iL_law_575 rfl ?_
  refine X.pushi (v := nI 2) iL_law_576 ?_
  refine X.iadd iL_law_577 ?_
  refine X.sld iL_law_578 (xin hk hN (by decide)) ?_
  refine X.callV iL_law_579 C2 z98 rfl rfl xfit6 (Nat.le_of_ble_eq_true rfl) hκ ?_
  intro v2 h2 hq2
  obtain ⟨rfl, inv2⟩ := K2 v2 h2 hq2
  refine X.cmeq iL_law_582 (fun c => ?_) (fun c => ?_)
  · exact K h2 inv2
  · exact absurd rfl c
theorem lc_fruit {κ1 κ2 : Nat} (hκ : κ1 ≤ room_1.cells ∧ κ2 ≤ room_1.slots) {xs : Nat → Int32} {N k : Nat} {h : XH} {Q : Option Value → XH → Prop} (hN : N ≤ 384) (hk : k + 6 ≤ N) (inv : INV h) (K : ∀ h2, INV h2 → X (xScr xs N) mL_law room_1 (κ1, κ2) 1215 (LL k) [] h2 Q) : X (xScr xs N) mL_law room_1 (κ1, κ2) 587 (LL k) [] h Q := by
  obtain ⟨fs0, z0⟩ := inv_0 inv
  refine X.aload iL_law_587 rfl ?_
  refine X.aload iL_law_588 rfl ?_
  refine X.iload iL_law_589 rfl ?_
  refine X.pushi (v := nI 1) iL_law_590 ?_
  refine X.iadd iL_law_591 ?_
  refine X.sld iL_law_592 (xin hk hN (by decide)) ?_
  refine X.aload iL_law_593 rfl ?_
  refine X.iload iL_law_594 rfl ?_
  refine X.pushi (v := nI 2) iL_law_595 ?_
  refine X.iadd iL_law_596 ?_
  refine X.sld iL_law_597 (xin hk hN (by decide)) ?_
  obtain ⟨r, Q1, C1, K1⟩ := inv_fruit (a := (xs (nI k + nI 1).toNatClampNeg)) (b := (xs (nI k + nI 2).toNatClampNeg)) inv
  refine X.callV iL_law_598 C1 z0 rfl rfl xfit6 (Nat.le_of_ble_eq_true rfl) hκ ?_
  intro v1 h1 hq
  obtain ⟨rfl, ⟨fs, z98⟩, Q2, C2, K2⟩ := K1 v1 h1 hq
  refine X.aload iL_law_601 rfl ?_
  refine X.aload iL_law_602 rfl ?_
  refine X.iload iL_law_603 rfl ?_
  refine X.pushi (v := nI 1) iL_law_604 ?_
  refine X.iadd iL_law_605 ?_
  refine X.sld iL_law_606 (xin hk hN (by decide)) ?_
  refine X.aload iL_law_607 rfl ?_
  refine X.iload iL_law_608 rfl ?_
  refine X.pushi (v := nI 2) iL_law_609 ?_
  refine X.iadd iL_law_610 ?_
  refine X.sld iL_law_611 (xin hk hN (by decide)) ?_
  refine X.callV iL_law_612 C2 z98 rfl rfl xfit6 (Nat.le_of_ble_eq_true rfl) hκ ?_
  intro v2 h2 hq2
  obtain ⟨rfl, inv2⟩ := K2 v2 h2 hq2
  refine X.cmeq iL_law_615 (fun c => ?_) (fun c => ?_)
  · exact K h2 inv2
  · exact absurd rfl c
theorem lc_reached {κ1 κ2 : Nat} (hκ : κ1 ≤ room_1.cells ∧ κ2 ≤ room_1.slots) {xs : Nat → Int32} {N k : Nat} {h : XH} {Q : Option Value → XH → Prop} (hN : N ≤ 384) (hk : k + 6 ≤ N) (inv : INV h) (K : ∀ h2, INV h2 → X (xScr xs N) mL_law room_1 (κ1, κ2) 1215 (LL k) [] h2 Q) : X (xScr xs N) mL_law room_1 (κ1, κ2) 620 (LL k) [] h Q := by
  obtain ⟨fs0, z0⟩ := inv_0 inv
  refine X.aload iL_law_620 rfl ?_
  refine X.aload iL_law_621 rfl ?_
  refine X.iload iL_law_622 rfl ?_
  refine X.pushi (v := nI 1) iL_law_623 ?_
  refine X.iadd iL_law_624 ?_
  refine X.sld iL_law_625 (xin hk hN (by decide)) ?_
  refine X.aload iL_law_626 rfl ?_
  refine X.iload iL_law_627 rfl ?_
  refine X.pushi (v := nI 2) iL_law_628 ?_
  refine X.iadd iL_law_629 ?_
  refine X.sld iL_law_630 (xin hk hN (by decide)) ?_
  obtain ⟨r, Q1, C1, K1⟩ := inv_reached (a := (xs (nI k + nI 1).toNatClampNeg)) (b := (xs (nI k + nI 2).toNatClampNeg)) inv
  refine X.callV iL_law_631 C1 z0 rfl rfl xfit6 (Nat.le_of_ble_eq_true rfl) hκ ?_
  intro v1 h1 hq
  obtain ⟨rfl, ⟨fs, z98⟩, Q2, C2, K2⟩ := K1 v1 h1 hq
  refine X.aload iL_law_634 rfl ?_
  refine X.aload iL_law_635 rfl ?_
  refine X.iload iL_law_636 rfl ?_
  refine X.pushi (v := nI 1) iL_law_637 ?_
  refine X.iadd iL_law_638 ?_
  refine X.sld iL_law_639 (xin hk hN (by decide)) ?_
  refine X.aload iL_law_640 rfl ?_
  refine X.iload iL_law_641 rfl ?_
  refine X.pushi (v := nI 2) iL_law_642 ?_
  refine X.iadd iL_law_643 ?_
  refine X.sld iL_law_644 (xin hk hN (by decide)) ?_
  refine X.callV iL_law_645 C2 z98 rfl rfl xfit6 (Nat.le_of_ble_eq_true rfl) hκ ?_
  intro v2 h2 hq2
  obtain ⟨rfl, inv2⟩ := K2 v2 h2 hq2
  refine X.cmeq iL_law_648 (fun c => ?_) (fun c => ?_)
  · exact K h2 inv2
  · exact absurd rfl c
theorem lc_gathered {κ1 κ2 : Nat} (hκ : κ1 ≤ room_1.cells ∧ κ2 ≤ room_1.slots) {xs : Nat → Int32} {N k : Nat} {h : XH} {Q : Option Value → XH → Prop} (hN : N ≤ 384) (hk : k + 6 ≤ N) (inv : INV h) (K : ∀ h2, INV h2 → X (xScr xs N) mL_law room_1 (κ1, κ2) 1215 (LL k) [] h2 Q) : X (xScr xs N) mL_law room_1 (κ1, κ2) 653 (LL k) [] h Q := by
  obtain ⟨fs0, z0⟩ := inv_0 inv
  refine X.aload iL_law_653 rfl ?_
  obtain ⟨r, Q1, C1, K1⟩ := inv_gathered  inv
  refine X.callV iL_law_654 C1 z0 rfl rfl xfit6 (Nat.le_of_ble_eq_true rfl) hκ ?_
  intro v1 h1 hq
  obtain ⟨rfl, ⟨fs, z98⟩, Q2, C2, K2⟩ := K1 v1 h1 hq
  refine X.aload iL_law_657 rfl ?_
  refine X.callV iL_law_658 C2 z98 rfl rfl xfit6 (Nat.le_of_ble_eq_true rfl) hκ ?_
  intro v2 h2 hq2
  obtain ⟨rfl, inv2⟩ := K2 v2 h2 hq2
  refine X.cmeq iL_law_661 (fun c => ?_) (fun c => ?_)
  · exact K h2 inv2
  · exact absurd rfl c
theorem lc_plan {κ1 κ2 : Nat} (hκ : κ1 ≤ room_1.cells ∧ κ2 ≤ room_1.slots) {xs : Nat → Int32} {N k : Nat} {h : XH} {Q : Option Value → XH → Prop} (hN : N ≤ 384) (hk : k + 6 ≤ N) (inv : INV h) (K : ∀ h2, INV h2 → X (xScr xs N) mL_law room_1 (κ1, κ2) 1215 (LL k) [] h2 Q) : X (xScr xs N) mL_law room_1 (κ1, κ2) 666 (LL k) [] h Q := by
  obtain ⟨fs0, z0⟩ := inv_0 inv
  refine X.aload iL_law_666 rfl ?_
  refine X.aload iL_law_667 rfl ?_
  refine X.iload iL_law_668 rfl ?_
  refine X.pushi (v := nI 1) iL_law_669 ?_
  refine X.iadd iL_law_670 ?_
  refine X.sld iL_law_671 (xin hk hN (by decide)) ?_
  refine X.aload iL_law_672 rfl ?_
  refine X.iload iL_law_673 rfl ?_
  refine X.pushi (v := nI 2) iL_law_674 ?_
  refine X.iadd iL_law_675 ?_
  refine X.sld iL_law_676 (xin hk hN (by decide)) ?_
  obtain ⟨r, Q1, C1, K1⟩ := inv_plan (a := (xs (nI k + nI 1).toNatClampNeg)) (b := (xs (nI k + nI 2).toNatClampNeg)) inv
  refine X.callV iL_law_677 C1 z0 rfl rfl xfit6 (Nat.le_of_ble_eq_true rfl) hκ ?_
  intro v1 h1 hq
  obtain ⟨rfl, ⟨fs, z98⟩, Q2, C2, K2⟩ := K1 v1 h1 hq
  refine X.aload iL_law_680 rfl ?_
  refine X.aload iL_law_681 rfl ?_
  refine X.iload iL_law_682 rfl ?_
  refine X.pushi (v := nI 1) iL_law_683 ?_
  refine X.iadd iL_law_684 ?_
  refine X.sld iL_law_685 (xin hk hN (by decide)) ?_
  refine X.aload iL_law_686 rfl ?_
  refine X.iload iL_law_687 rfl ?_
  refine X.pushi (v := nI 2) iL_law_688 ?_
  refine X.iadd iL_law_689 ?_
  refine X.sld iL_law_690 (xin hk hN (by decide)) ?_
  refine X.callV iL_law_691 C2 z98 rfl rfl xfit6 (Nat.le_of_ble_eq_true rfl) hκ ?_
  intro v2 h2 hq2
  obtain ⟨rfl, inv2⟩ := K2 v2 h2 hq2
  refine X.cmeq iL_law_694 (fun c => ?_) (fun c => ?_)
  · exact K h2 inv2
  · exact absurd rfl c
theorem lc_round {κ1 κ2 : Nat} (hκ : κ1 ≤ room_1.cells ∧ κ2 ≤ room_1.slots) {xs : Nat → Int32} {N k : Nat} {h : XH} {Q : Option Value → XH → Prop} (hN : N ≤ 384) (hk : k + 6 ≤ N) (inv : INV h) (K : ∀ h2, INV h2 → X (xScr xs N) mL_law room_1 (κ1, κ2) 1215 (LL k) [] h2 Q) : X (xScr xs N) mL_law room_1 (κ1, κ2) 699 (LL k) [] h Q := by
  obtain ⟨fs0, z0⟩ := inv_0 inv
  refine X.aload iL_law_699 rfl ?_
  refine X.aload iL_law_700 rfl ?_
  refine X.iload iL_law_701 rfl ?_
  refine X.pushi (v := nI 1) iL_law_702 ?_
  refine X.iadd iL_law_703 ?_
  refine X.sld iL_law_704 (xin hk hN (by decide)) ?_
  refine X.aload iL_law_705 rfl ?_
  refine X.iload iL_law_706 rfl ?_
  refine X.pushi (v := nI 2) iL_law_707 ?_
  refine X.iadd iL_law_708 ?_
  refine X.sld iL_law_709 (xin hk hN (by decide)) ?_
  refine X.aload iL_law_710 rfl ?_
  refine X.iload iL_law_711 rfl ?_
  refine X.pushi (v := nI 3) iL_law_712 ?_
  refine X.iadd iL_law_713 ?_
  refine X.sld iL_law_714 (xin hk hN (by decide)) ?_
  obtain ⟨r, Q1, C1, K1⟩ := inv_round (a := (xs (nI k + nI 1).toNatClampNeg)) (b := (xs (nI k + nI 2).toNatClampNeg)) (c := (xs (nI k + nI 3).toNatClampNeg)) inv
  refine X.callV iL_law_715 C1 z0 rfl rfl xfit6 (Nat.le_of_ble_eq_true rfl) hκ ?_
  intro v1 h1 hq
  obtain ⟨rfl, ⟨fs, z98⟩, Q2, C2, K2⟩ := K1 v1 h1 hq
  refine X.aload iL_law_718 rfl ?_
  refine X.aload iL_law_719 rfl ?_
  refine X.iload iL_law_720 rfl ?_
  refine X.pushi (v := nI 1) iL_law_721 ?_
  refine X.iadd iL_law_722 ?_
  refine X.sld iL_law_723 (xin hk hN (by decide)) ?_
  refine X.aload iL_law_724 rfl ?_
  refine X.iload iL_law_725 rfl ?_
  refine X.pushi (v := nI 2) iL_law_726 ?_
  refine X.iadd iL_law_727 ?_
  refine X.sld iL_law_728 (xin hk hN (by decide)) ?_
  refine X.aload iL_law_729 rfl ?_
  refine X.iload iL_law_730 rfl ?_
  refine X.pushi (v := nI 3) iL_law_731 ?_
  refine X.iadd iL_law_732 ?_
  refine X.sld iL_law_733 (xin hk hN (by decide)) ?_
  refine X.callV iL_law_734 C2 z98 rfl rfl xfit6 (Nat.le_of_ble_eq_true rfl) hκ ?_
  intro v2 h2 hq2
  obtain ⟨rfl, inv2⟩ := K2 v2 h2 hq2
  refine X.cmeq iL_law_737 (fun c => ?_) (fun c => ?_)
  · exact K h2 inv2
  · exact absurd rfl c
theorem lc_longer {κ1 κ2 : Nat} (hκ : κ1 ≤ room_1.cells ∧ κ2 ≤ room_1.slots) {xs : Nat → Int32} {N k : Nat} {h : XH} {Q : Option Value → XH → Prop} (hN : N ≤ 384) (hk : k + 6 ≤ N) (inv : INV h) (K : ∀ h2, INV h2 → X (xScr xs N) mL_law room_1 (κ1, κ2) 1215 (LL k) [] h2 Q) : X (xScr xs N) mL_law room_1 (κ1, κ2) 742 (LL k) [] h Q := by
  obtain ⟨fs0, z0⟩ := inv_0 inv
  refine X.aload iL_law_742 rfl ?_
  refine X.aload iL_law_743 rfl ?_
  refine X.iload iL_law_744 rfl ?_
  refine X.pushi (v := nI 1) iL_law_745 ?_
  refine X.iadd iL_law_746 ?_
  refine X.sld iL_law_747 (xin hk hN (by decide)) ?_
  refine X.aload iL_law_748 rfl ?_
  refine X.iload iL_law_749 rfl ?_
  refine X.pushi (v := nI 2) iL_law_750 ?_
  refine X.iadd iL_law_751 ?_
  refine X.sld iL_law_752 (xin hk hN (by decide)) ?_
  obtain ⟨r, Q1, C1, K1⟩ := inv_longer (a := (xs (nI k + nI 1).toNatClampNeg)) (b := (xs (nI k + nI 2).toNatClampNeg)) inv
  refine X.callV iL_law_753 C1 z0 rfl rfl xfit6 (Nat.le_of_ble_eq_true rfl) hκ ?_
  intro v1 h1 hq
  obtain ⟨rfl, ⟨fs, z98⟩, Q2, C2, K2⟩ := K1 v1 h1 hq
  refine X.aload iL_law_756 rfl ?_
  refine X.aload iL_law_757 rfl ?_
  refine X.iload iL_law_758 rfl ?_
  refine X.pushi (v := nI 1) iL_law_759 ?_
  refine X.iadd iL_law_760 ?_
  refine X.sld iL_law_761 (xin hk hN (by decide)) ?_
  refine X.aload iL_law_762 rfl ?_
  refine X.iload iL_law_763 rfl ?_
  refine X.pushi (v := nI 2) iL_law_764 ?_
  refine X.iadd iL_law_765 ?_
  refine X.sld iL_law_766 (xin hk hN (by decide)) ?_
  refine X.callV iL_law_767 C2 z98 rfl rfl xfit6 (Nat.le_of_ble_eq_true rfl) hκ ?_
  intro v2 h2 hq2
  obtain ⟨rfl, inv2⟩ := K2 v2 h2 hq2
  refine X.cmeq iL_law_770 (fun c => ?_) (fun c => ?_)
  · exact K h2 inv2
  · exact absurd rfl c
theorem lc_larger {κ1 κ2 : Nat} (hκ : κ1 ≤ room_1.cells ∧ κ2 ≤ room_1.slots) {xs : Nat → Int32} {N k : Nat} {h : XH} {Q : Option Value → XH → Prop} (hN : N ≤ 384) (hk : k + 6 ≤ N) (inv : INV h) (K : ∀ h2, INV h2 → X (xScr xs N) mL_law room_1 (κ1, κ2) 1215 (LL k) [] h2 Q) : X (xScr xs N) mL_law room_1 (κ1, κ2) 775 (LL k) [] h Q := by
  obtain ⟨fs0, z0⟩ := inv_0 inv
  refine X.aload iL_law_775 rfl ?_
  refine X.aload iL_law_776 rfl ?_
  refine X.iload iL_law_777 rfl ?_
  refine X.pushi (v := nI 1) iL_law_778 ?_
  refine X.iadd iL_law_779 ?_
  refine X.sld iL_law_780 (xin hk hN (by decide)) ?_
  refine X.aload iL_law_781 rfl ?_
  refine X.iload iL_law_782 rfl ?_
  refine X.pushi (v := nI 2) iL_law_783 ?_
  refine X.iadd iL_law_784 ?_
  refine X.sld iL_law_785 (xin hk hN (by decide)) ?_
  obtain ⟨r, Q1, C1, K1⟩ := inv_larger (a := (xs (nI k + nI 1).toNatClampNeg)) (b := (xs (nI k + nI 2).toNatClampNeg)) inv
  refine X.callV iL_law_786 C1 z0 rfl rfl xfit6 (Nat.le_of_ble_eq_true rfl) hκ ?_
  intro v1 h1 hq
  obtain ⟨rfl, ⟨fs, z98⟩, Q2, C2, K2⟩ := K1 v1 h1 hq
  refine X.aload iL_law_789 rfl ?_
  refine X.aload iL_law_790 rfl ?_
  refine X.iload iL_law_791 rfl ?_
  refine X.pushi (v := nI 1) iL_law_792 ?_
  refine X.iadd iL_law_793 ?_
  refine X.sld iL_law_794 (xin hk hN (by decide)) ?_
  refine X.aload iL_law_795 rfl ?_
  refine X.iload iL_law_796 rfl ?_
  refine X.pushi (v := nI 2) iL_law_797 ?_
  refine X.iadd iL_law_798 ?_
  refine X.sld iL_law_799 (xin hk hN (by decide)) ?_
  refine X.callV iL_law_800 C2 z98 rfl rfl xfit6 (Nat.le_of_ble_eq_true rfl) hκ ?_
  intro v2 h2 hq2
  obtain ⟨rfl, inv2⟩ := K2 v2 h2 hq2
  refine X.cmeq iL_law_803 (fun c => ?_) (fun c => ?_)
  · exact K h2 inv2
  · exact absurd rfl c
theorem lc_luck {κ1 κ2 : Nat} (hκ : κ1 ≤ room_1.cells ∧ κ2 ≤ room_1.slots) {xs : Nat → Int32} {N k : Nat} {h : XH} {Q : Option Value → XH → Prop} (hN : N ≤ 384) (hk : k + 6 ≤ N) (inv : INV h) (K : ∀ h2, INV h2 → X (xScr xs N) mL_law room_1 (κ1, κ2) 1215 (LL k) [] h2 Q) : X (xScr xs N) mL_law room_1 (κ1, κ2) 808 (LL k) [] h Q := by
  obtain ⟨fs0, z0⟩ := inv_0 inv
  refine X.aload iL_law_808 rfl ?_
  refine X.aload iL_law_809 rfl ?_
  refine X.iload iL_law_810 rfl ?_
  refine X.pushi (v := nI 1) iL_law_811 ?_
  refine X.iadd iL_law_812 ?_
  refine X.sld iL_law_813 (xin hk hN (by decide)) ?_
  refine X.aload iL_law_814 rfl ?_
  refine X.iload iL_law_815 rfl ?_
  refine X.pushi (v := nI 2) iL_law_816 ?_
  refine X.iadd iL_law_817 ?_
  refine X.sld iL_law_818 (xin hk hN (by decide)) ?_
  refine X.aload iL_law_819 rfl ?_
  refine X.iload iL_law_820 rfl ?_
  refine X.pushi (v := nI 3) iL_law_821 ?_
  refine X.iadd iL_law_822 ?_
  refine X.sld iL_law_823 (xin hk hN (by decide)) ?_
  obtain ⟨r, Q1, C1, K1⟩ := inv_luck (a := (xs (nI k + nI 1).toNatClampNeg)) (b := (xs (nI k + nI 2).toNatClampNeg)) (c := (xs (nI k + nI 3).toNatClampNeg)) inv
  refine X.callV iL_law_824 C1 z0 rfl rfl xfit6 (Nat.le_of_ble_eq_true rfl) hκ ?_
  intro v1 h1 hq
  obtain ⟨rfl, ⟨fs, z98⟩, Q2, C2, K2⟩ := K1 v1 h1 hq
  refine X.aload iL_law_827 rfl ?_
  refine X.aload iL_law_828 rfl ?_
  refine X.iload iL_law_829 rfl ?_
  refine X.pushi (v := nI 1) iL_law_830 ?_
  refine X.iadd iL_law_831 ?_
  refine X.sld iL_law_832 (xin hk hN (by decide)) ?_
  refine X.aload iL_law_833 rfl ?_
  refine X.iload iL_law_834 rfl ?_
  refine X.pushi (v := nI 2) iL_law_835 ?_
  refine X.iadd iL_law_836 ?_
  refine X.sld iL_law_837 (xin hk hN (by decide)) ?_
  refine X.aload iL_law_838 rfl ?_
  refine X.iload iL_law_839 rfl ?_
  refine X.pushi (v := nI 3) iL_law_840 ?_
  refine X.iadd iL_law_841 ?_
  refine X.sld iL_law_842 (xin hk hN (by decide)) ?_
  refine X.callV iL_law_843 C2 z98 rfl rfl xfit6 (Nat.le_of_ble_eq_true rfl) hκ ?_
  intro v2 h2 hq2
  obtain ⟨rfl, inv2⟩ := K2 v2 h2 hq2
  refine X.cmeq iL_law_846 (fun c => ?_) (fun c => ?_)
  · exact K h2 inv2
  · exact absurd rfl c
theorem lc_image {κ1 κ2 : Nat} (hκ : κ1 ≤ room_1.cells ∧ κ2 ≤ room_1.slots) {xs : Nat → Int32} {N k : Nat} {h : XH} {Q : Option Value → XH → Prop} (hN : N ≤ 384) (hk : k + 6 ≤ N) (inv : INV h) (K : ∀ h2, INV h2 → X (xScr xs N) mL_law room_1 (κ1, κ2) 1215 (LL k) [] h2 Q) : X (xScr xs N) mL_law room_1 (κ1, κ2) 851 (LL k) [] h Q := by
  obtain ⟨fs0, z0⟩ := inv_0 inv
  refine X.aload iL_law_851 rfl ?_
  obtain ⟨r, Q1, C1, K1⟩ := inv_image  inv
  refine X.callV iL_law_852 C1 z0 rfl rfl xfit6 (Nat.le_of_ble_eq_true rfl) hκ ?_
  intro v1 h1 hq
  obtain ⟨rfl, ⟨fs, z98⟩, Q2, C2, K2⟩ := K1 v1 h1 hq
  refine X.aload iL_law_855 rfl ?_
  refine X.callV iL_law_856 C2 z98 rfl rfl xfit6 (Nat.le_of_ble_eq_true rfl) hκ ?_
  intro v2 h2 hq2
  obtain ⟨rfl, inv2⟩ := K2 v2 h2 hq2
  refine X.cmeq iL_law_859 (fun c => ?_) (fun c => ?_)
  · exact K h2 inv2
  · exact absurd rfl c
theorem lc_restore {κ1 κ2 : Nat} (hκ : κ1 ≤ room_1.cells ∧ κ2 ≤ room_1.slots) {xs : Nat → Int32} {N k : Nat} {h : XH} {Q : Option Value → XH → Prop} (hN : N ≤ 384) (hk : k + 6 ≤ N) (inv : INV h) (K : ∀ h2, INV h2 → X (xScr xs N) mL_law room_1 (κ1, κ2) 1215 (LL k) [] h2 Q) : X (xScr xs N) mL_law room_1 (κ1, κ2) 864 (LL k) [] h Q := by
  obtain ⟨fs0, z0⟩ := inv_0 inv
  refine X.aload iL_law_864 rfl ?_
  obtain ⟨r, Q1, C1, K1⟩ := inv_restore  inv
  refine X.callV iL_law_865 C1 z0 rfl rfl xfit6 (Nat.le_of_ble_eq_true rfl) hκ ?_
  intro v1 h1 hq
  obtain ⟨rfl, ⟨fs, z98⟩, Q2, C2, K2⟩ := K1 v1 h1 hq
  refine X.aload iL_law_868 rfl ?_
  refine X.callV iL_law_869 C2 z98 rfl rfl xfit6 (Nat.le_of_ble_eq_true rfl) hκ ?_
  intro v2 h2 hq2
  obtain ⟨rfl, inv2⟩ := K2 v2 h2 hq2
  refine X.cmeq iL_law_872 (fun c => ?_) (fun c => ?_)
  · exact K h2 inv2
  · exact absurd rfl c
theorem lc_left {κ1 κ2 : Nat} (hκ : κ1 ≤ room_1.cells ∧ κ2 ≤ room_1.slots) {xs : Nat → Int32} {N k : Nat} {h : XH} {Q : Option Value → XH → Prop} (hN : N ≤ 384) (hk : k + 6 ≤ N) (inv : INV h) (K : ∀ h2, INV h2 → X (xScr xs N) mL_law room_1 (κ1, κ2) 1215 (LL k) [] h2 Q) : X (xScr xs N) mL_law room_1 (κ1, κ2) 877 (LL k) [] h Q := by
  obtain ⟨fs0, z0⟩ := inv_0 inv
  refine X.aload iL_law_877 rfl ?_
  refine X.aload iL_law_878 rfl ?_
  refine X.iload iL_law_879 rfl ?_
  refine X.pushi (v := nI 1) iL_law_880 ?_
  refine X.iadd iL_law_881 ?_
  refine X.sld iL_law_882 (xin hk hN (by decide)) ?_
  refine X.aload iL_law_883 rfl ?_
  refine X.iload iL_law_884 rfl ?_
  refine X.pushi (v := nI 2) iL_law_885 ?_
  refine X.iadd iL_law_886 ?_
  refine X.sld iL_law_887 (xin hk hN (by decide)) ?_
  refine X.aload iL_law_888 rfl ?_
  refine X.iload iL_law_889 rfl ?_
  refine X.pushi (v := nI 3) iL_law_890 ?_
  refine X.iadd iL_law_891 ?_
  refine X.sld iL_law_892 (xin hk hN (by decide)) ?_
  refine X.aload iL_law_893 rfl ?_
  refine X.iload iL_law_894 rfl ?_
  refine X.pushi (v := nI 4) iL_law_895 ?_
  refine X.iadd iL_law_896 ?_
  refine X.sld iL_law_897 (xin hk hN (by decide)) ?_
  refine X.aload iL_law_898 rfl ?_
  refine X.iload iL_law_899 rfl ?_
  refine X.pushi (v := nI 5) iL_law_900 ?_
  refine X.iadd iL_law_901 ?_
  refine X.sld iL_law_902 (xin hk hN (by decide)) ?_
  obtain ⟨r, Q1, C1, K1⟩ := inv_left (a := (xs (nI k + nI 1).toNatClampNeg)) (b := (xs (nI k + nI 2).toNatClampNeg)) (c := (xs (nI k + nI 3).toNatClampNeg)) (i := (xs (nI k + nI 4).toNatClampNeg)) (n := (xs (nI k + nI 5).toNatClampNeg)) inv
  refine X.callV iL_law_903 C1 z0 rfl rfl xfit6 (Nat.le_of_ble_eq_true rfl) hκ ?_
  intro v1 h1 hq
  obtain ⟨rfl, ⟨fs, z98⟩, Q2, C2, K2⟩ := K1 v1 h1 hq
  refine X.aload iL_law_906 rfl ?_
  refine X.aload iL_law_907 rfl ?_
  refine X.iload iL_law_908 rfl ?_
  refine X.pushi (v := nI 1) iL_law_909 ?_
  refine X.iadd iL_law_910 ?_
  refine X.sld iL_law_911 (xin hk hN (by decide)) ?_
  refine X.aload iL_law_912 rfl ?_
  refine X.iload iL_law_913 rfl ?_
  refine X.pushi (v := nI 2) iL_law_914 ?_
  refine X.iadd iL_law_915 ?_
  refine X.sld iL_law_916 (xin hk hN (by decide)) ?_
  refine X.aload iL_law_917 rfl ?_
  refine X.iload iL_law_918 rfl ?_
  refine X.pushi (v := nI 3) iL_law_919 ?_
  refine X.iadd iL_law_920 ?_
  refine X.sld iL_law_921 (xin hk hN (by decide)) ?_
  refine X.aload iL_law_922 rfl ?_
  refine X.iload iL_law_923 rfl ?_
  refine X.pushi (v := nI 4) iL_law_924 ?_
  refine X.iadd iL_law_925 ?_
  refine X.sld iL_law_926 (xin hk hN (by decide)) ?_
  refine X.aload iL_law_927 rfl ?_
  refine X.iload iL_law_928 rfl ?_
  refine X.pushi (v := nI 5) iL_law_929 ?_
  refine X.iadd iL_law_930 ?_
  refine X.sld iL_law_931 (xin hk hN (by decide)) ?_
  refine X.callV iL_law_932 C2 z98 rfl rfl xfit6 (Nat.le_of_ble_eq_true rfl) hκ ?_
  intro v2 h2 hq2
  obtain ⟨rfl, inv2⟩ := K2 v2 h2 hq2
  refine X.cmeq iL_law_935 (fun c => ?_) (fun c => ?_)
  · exact K h2 inv2
  · exact absurd rfl c
theorem lc_film {κ1 κ2 : Nat} (hκ : κ1 ≤ room_1.cells ∧ κ2 ≤ room_1.slots) {xs : Nat → Int32} {N k : Nat} {h : XH} {Q : Option Value → XH → Prop} (hN : N ≤ 384) (hk : k + 6 ≤ N) (inv : INV h) (K : ∀ h2, INV h2 → X (xScr xs N) mL_law room_1 (κ1, κ2) 1215 (LL k) [] h2 Q) : X (xScr xs N) mL_law room_1 (κ1, κ2) 940 (LL k) [] h Q := by
  obtain ⟨fs0, z0⟩ := inv_0 inv
  refine X.aload iL_law_940 rfl ?_
  refine X.aload iL_law_941 rfl ?_
  refine X.iload iL_law_942 rfl ?_
  refine X.pushi (v := nI 1) iL_law_943 ?_
  refine X.iadd iL_law_944 ?_
  refine X.sld iL_law_945 (xin hk hN (by decide)) ?_
  refine X.aload iL_law_946 rfl ?_
  refine X.iload iL_law_947 rfl ?_
  refine X.pushi (v := nI 2) iL_law_948 ?_
  refine X.iadd iL_law_949 ?_
  refine X.sld iL_law_950 (xin hk hN (by decide)) ?_
  refine X.aload iL_law_951 rfl ?_
  refine X.iload iL_law_952 rfl ?_
  refine X.pushi (v := nI 3) iL_law_953 ?_
  refine X.iadd iL_law_954 ?_
  refine X.sld iL_law_955 (xin hk hN (by decide)) ?_
  refine X.aload iL_law_956 rfl ?_
  refine X.iload iL_law_957 rfl ?_
  refine X.pushi (v := nI 4) iL_law_958 ?_
  refine X.iadd iL_law_959 ?_
  refine X.sld iL_law_960 (xin hk hN (by decide)) ?_
  refine X.aload iL_law_961 rfl ?_
  refine X.iload iL_law_962 rfl ?_
  refine X.pushi (v := nI 5) iL_law_963 ?_
  refine X.iadd iL_law_964 ?_
  refine X.sld iL_law_965 (xin hk hN (by decide)) ?_
  obtain ⟨r, Q1, C1, K1⟩ := inv_film (a := (xs (nI k + nI 1).toNatClampNeg)) (n := (xs (nI k + nI 2).toNatClampNeg)) (b := (xs (nI k + nI 3).toNatClampNeg)) (c := (xs (nI k + nI 4).toNatClampNeg)) (i := (xs (nI k + nI 5).toNatClampNeg)) inv
  refine X.callV iL_law_966 C1 z0 rfl rfl xfit6 (Nat.le_of_ble_eq_true rfl) hκ ?_
  intro v1 h1 hq
  obtain ⟨rfl, ⟨fs, z98⟩, Q2, C2, K2⟩ := K1 v1 h1 hq
  refine X.aload iL_law_969 rfl ?_
  refine X.aload iL_law_970 rfl ?_
  refine X.iload iL_law_971 rfl ?_
  refine X.pushi (v := nI 1) iL_law_972 ?_
  refine X.iadd iL_law_973 ?_
  refine X.sld iL_law_974 (xin hk hN (by decide)) ?_
  refine X.aload iL_law_975 rfl ?_
  refine X.iload iL_law_976 rfl ?_
  refine X.pushi (v := nI 2) iL_law_977 ?_
  refine X.iadd iL_law_978 ?_
  refine X.sld iL_law_979 (xin hk hN (by decide)) ?_
  refine X.aload iL_law_980 rfl ?_
  refine X.iload iL_law_981 rfl ?_
  refine X.pushi (v := nI 3) iL_law_982 ?_
  refine X.iadd iL_law_983 ?_
  refine X.sld iL_law_984 (xin hk hN (by decide)) ?_
  refine X.aload iL_law_985 rfl ?_
  refine X.iload iL_law_986 rfl ?_
  refine X.pushi (v := nI 4) iL_law_987 ?_
  refine X.iadd iL_law_988 ?_
  refine X.sld iL_law_989 (xin hk hN (by decide)) ?_
  refine X.aload iL_law_990 rfl ?_
  refine X.iload iL_law_991 rfl ?_
  refine X.pushi (v := nI 5) iL_law_992 ?_
  refine X.iadd iL_law_993 ?_
  refine X.sld iL_law_994 (xin hk hN (by decide)) ?_
  refine X.callV iL_law_995 C2 z98 rfl rfl xfit6 (Nat.le_of_ble_eq_true rfl) hκ ?_
  intro v2 h2 hq2
  obtain ⟨rfl, inv2⟩ := K2 v2 h2 hq2
  refine X.cmeq iL_law_998 (fun c => ?_) (fun c => ?_)
  · exact K h2 inv2
  · exact absurd rfl c
theorem lc_sheet {κ1 κ2 : Nat} (hκ : κ1 ≤ room_1.cells ∧ κ2 ≤ room_1.slots) {xs : Nat → Int32} {N k : Nat} {h : XH} {Q : Option Value → XH → Prop} (hN : N ≤ 384) (hk : k + 6 ≤ N) (inv : INV h) (K : ∀ h2, INV h2 → X (xScr xs N) mL_law room_1 (κ1, κ2) 1215 (LL k) [] h2 Q) : X (xScr xs N) mL_law room_1 (κ1, κ2) 1003 (LL k) [] h Q := by
  obtain ⟨fs0, z0⟩ := inv_0 inv
  refine X.aload iL_law_1003 rfl ?_
  refine X.aload iL_law_1004 rfl ?_
  refine X.iload iL_law_1005 rfl ?_
  refine X.pushi (v := nI 1) iL_law_1006 ?_
  refine X.iadd iL_law_1007 ?_
  refine X.sld iL_law_1008 (xin hk hN (by decide)) ?_
  refine X.aload iL_law_1009 rfl ?_
  refine X.iload iL_law_1010 rfl ?_
  refine X.pushi (v := nI 2) iL_law_1011 ?_
  refine X.iadd iL_law_1012 ?_
  refine X.sld iL_law_1013 (xin hk hN (by decide)) ?_
  refine X.aload iL_law_1014 rfl ?_
  refine X.iload iL_law_1015 rfl ?_
  refine X.pushi (v := nI 3) iL_law_1016 ?_
  refine X.iadd iL_law_1017 ?_
  refine X.sld iL_law_1018 (xin hk hN (by decide)) ?_
  obtain ⟨r, Q1, C1, K1⟩ := inv_sheet (a := (xs (nI k + nI 1).toNatClampNeg)) (b := (xs (nI k + nI 2).toNatClampNeg)) (c := (xs (nI k + nI 3).toNatClampNeg)) inv
  refine X.callV iL_law_1019 C1 z0 rfl rfl xfit6 (Nat.le_of_ble_eq_true rfl) hκ ?_
  intro v1 h1 hq
  obtain ⟨rfl, ⟨fs, z98⟩, Q2, C2, K2⟩ := K1 v1 h1 hq
  refine X.aload iL_law_1022 rfl ?_
  refine X.aload iL_law_1023 rfl ?_
  refine X.iload iL_law_1024 rfl ?_
  refine X.pushi (v := nI 1) iL_law_1025 ?_
  refine X.iadd iL_law_1026 ?_
  refine X.sld iL_law_1027 (xin hk hN (by decide)) ?_
  refine X.aload iL_law_1028 rfl ?_
  refine X.iload iL_law_1029 rfl ?_
  refine X.pushi (v := nI 2) iL_law_1030 ?_
  refine X.iadd iL_law_1031 ?_
  refine X.sld iL_law_1032 (xin hk hN (by decide)) ?_
  refine X.aload iL_law_1033 rfl ?_
  refine X.iload iL_law_1034 rfl ?_
  refine X.pushi (v := nI 3) iL_law_1035 ?_
  refine X.iadd iL_law_1036 ?_
  refine X.sld iL_law_1037 (xin hk hN (by decide)) ?_
  refine X.callV iL_law_1038 C2 z98 rfl rfl xfit6 (Nat.le_of_ble_eq_true rfl) hκ ?_
  intro v2 h2 hq2
  obtain ⟨rfl, inv2⟩ := K2 v2 h2 hq2
  refine X.cmeq iL_law_1041 (fun c => ?_) (fun c => ?_)
  · exact K h2 inv2
  · exact absurd rfl c
theorem lc_drop {κ1 κ2 : Nat} (hκ : κ1 ≤ room_1.cells ∧ κ2 ≤ room_1.slots) {xs : Nat → Int32} {N k : Nat} {h : XH} {Q : Option Value → XH → Prop} (hN : N ≤ 384) (hk : k + 6 ≤ N) (inv : INV h) (K : ∀ h2, INV h2 → X (xScr xs N) mL_law room_1 (κ1, κ2) 1215 (LL k) [] h2 Q) : X (xScr xs N) mL_law room_1 (κ1, κ2) 1046 (LL k) [] h Q := by
  obtain ⟨fs0, z0⟩ := inv_0 inv
  refine X.aload iL_law_1046 rfl ?_
  refine X.aload iL_law_1047 rfl ?_
  refine X.iload iL_law_1048 rfl ?_
  refine X.pushi (v := nI 1) iL_law_1049 ?_
  refine X.iadd iL_law_1050 ?_
  refine X.sld iL_law_1051 (xin hk hN (by decide)) ?_
  obtain ⟨r, Q1, C1, K1⟩ := inv_drop (a := (xs (nI k + nI 1).toNatClampNeg)) inv
  refine X.callV iL_law_1052 C1 z0 rfl rfl xfit6 (Nat.le_of_ble_eq_true rfl) hκ ?_
  intro v1 h1 hq
  obtain ⟨rfl, ⟨fs, z98⟩, Q2, C2, K2⟩ := K1 v1 h1 hq
  refine X.aload iL_law_1055 rfl ?_
  refine X.aload iL_law_1056 rfl ?_
  refine X.iload iL_law_1057 rfl ?_
  refine X.pushi (v := nI 1) iL_law_1058 ?_
  refine X.iadd iL_law_1059 ?_
  refine X.sld iL_law_1060 (xin hk hN (by decide)) ?_
  refine X.callV iL_law_1061 C2 z98 rfl rfl xfit6 (Nat.le_of_ble_eq_true rfl) hκ ?_
  intro v2 h2 hq2
  obtain ⟨rfl, inv2⟩ := K2 v2 h2 hq2
  refine X.cmeq iL_law_1064 (fun c => ?_) (fun c => ?_)
  · exact K h2 inv2
  · exact absurd rfl c
theorem lc_item {κ1 κ2 : Nat} (hκ : κ1 ≤ room_1.cells ∧ κ2 ≤ room_1.slots) {xs : Nat → Int32} {N k : Nat} {h : XH} {Q : Option Value → XH → Prop} (hN : N ≤ 384) (hk : k + 6 ≤ N) (inv : INV h) (K : ∀ h2, INV h2 → X (xScr xs N) mL_law room_1 (κ1, κ2) 1215 (LL k) [] h2 Q) : X (xScr xs N) mL_law room_1 (κ1, κ2) 1069 (LL k) [] h Q := by
  obtain ⟨fs0, z0⟩ := inv_0 inv
  refine X.aload iL_law_1069 rfl ?_
  refine X.aload iL_law_1070 rfl ?_
  refine X.iload iL_law_1071 rfl ?_
  refine X.pushi (v := nI 1) iL_law_1072 ?_
  refine X.iadd iL_law_1073 ?_
  refine X.sld iL_law_1074 (xin hk hN (by decide)) ?_
  refine X.aload iL_law_1075 rfl ?_
  refine X.iload iL_law_1076 rfl ?_
  refine X.pushi (v := nI 2) iL_law_1077 ?_
  refine X.iadd iL_law_1078 ?_
  refine X.sld iL_law_1079 (xin hk hN (by decide)) ?_
  refine X.aload iL_law_1080 rfl ?_
  refine X.iload iL_law_1081 rfl ?_
  refine X.pushi (v := nI 3) iL_law_1082 ?_
  refine X.iadd iL_law_1083 ?_
  refine X.sld iL_law_1084 (xin hk hN (by decide)) ?_
  refine X.aload iL_law_1085 rfl ?_
  refine X.iload iL_law_1086 rfl ?_
  refine X.pushi (v := nI 4) iL_law_1087 ?_
  refine X.iadd iL_law_1088 ?_
  refine X.sld iL_law_1089 (xin hk hN (by decide)) ?_
  refine X.i2l iL_law_1090 ?_
  refine X.pushi (v := nI 32) iL_law_1091 ?_
  refine X.lshl iL_law_1093 ?_
  refine X.aload iL_law_1094 rfl ?_
  refine X.iload iL_law_1095 rfl ?_
  refine X.pushi (v := nI 5) iL_law_1096 ?_
  refine X.iadd iL_law_1097 ?_
  refine X.sld iL_law_1098 (xin hk hN (by decide)) ?_
  refine X.i2l iL_law_1099 ?_
  refine X.pushl iL_law_1100 ?_
  refine X.land iL_law_1103 ?_
  refine X.lor iL_law_1104 ?_
  obtain ⟨r, Q1, C1, K1⟩ := inv_item (a := (xs (nI k + nI 1).toNatClampNeg)) (b := (xs (nI k + nI 2).toNatClampNeg)) (c := (xs (nI k + nI 3).toNatClampNeg)) (v := (((xs (nI k + nI 4).toNatClampNeg).toInt64 <<< ((nI 32).toInt64 &&& 63)) ||| ((xs (nI k + nI 5).toNatClampNeg).toInt64 &&& 4294967295))) inv
  refine X.callV iL_law_1105 C1 z0 rfl rfl xfit6 (Nat.le_of_ble_eq_true rfl) hκ ?_
  intro v1 h1 hq
  obtain ⟨rfl, ⟨fs, z98⟩, Q2, C2, K2⟩ := K1 v1 h1 hq
  refine X.aload iL_law_1108 rfl ?_
  refine X.aload iL_law_1109 rfl ?_
  refine X.iload iL_law_1110 rfl ?_
  refine X.pushi (v := nI 1) iL_law_1111 ?_
  refine X.iadd iL_law_1112 ?_
  refine X.sld iL_law_1113 (xin hk hN (by decide)) ?_
  refine X.aload iL_law_1114 rfl ?_
  refine X.iload iL_law_1115 rfl ?_
  refine X.pushi (v := nI 2) iL_law_1116 ?_
  refine X.iadd iL_law_1117 ?_
  refine X.sld iL_law_1118 (xin hk hN (by decide)) ?_
  refine X.aload iL_law_1119 rfl ?_
  refine X.iload iL_law_1120 rfl ?_
  refine X.pushi (v := nI 3) iL_law_1121 ?_
  refine X.iadd iL_law_1122 ?_
  refine X.sld iL_law_1123 (xin hk hN (by decide)) ?_
  refine X.aload iL_law_1124 rfl ?_
  refine X.iload iL_law_1125 rfl ?_
  refine X.pushi (v := nI 4) iL_law_1126 ?_
  refine X.iadd iL_law_1127 ?_
  refine X.sld iL_law_1128 (xin hk hN (by decide)) ?_
  refine X.i2l iL_law_1129 ?_
  refine X.pushi (v := nI 32) iL_law_1130 ?_
  refine X.lshl iL_law_1132 ?_
  refine X.aload iL_law_1133 rfl ?_
  refine X.iload iL_law_1134 rfl ?_
  refine X.pushi (v := nI 5) iL_law_1135 ?_
  refine X.iadd iL_law_1136 ?_
  refine X.sld iL_law_1137 (xin hk hN (by decide)) ?_
  refine X.i2l iL_law_1138 ?_
  refine X.pushl iL_law_1139 ?_
  refine X.land iL_law_1142 ?_
  refine X.lor iL_law_1143 ?_
  refine X.callV iL_law_1144 C2 z98 rfl rfl xfit6 (Nat.le_of_ble_eq_true rfl) hκ ?_
  intro v2 h2 hq2
  obtain ⟨rfl, inv2⟩ := K2 v2 h2 hq2
  refine X.cmeq iL_law_1147 (fun c => ?_) (fun c => ?_)
  · exact K h2 inv2
  · exact absurd rfl c
theorem lc_copy {κ1 κ2 : Nat} (hκ : κ1 ≤ room_1.cells ∧ κ2 ≤ room_1.slots) {xs : Nat → Int32} {N k : Nat} {h : XH} {Q : Option Value → XH → Prop} (hN : N ≤ 384) (hk : k + 6 ≤ N) (inv : INV h) (K : ∀ h2, INV h2 → X (xScr xs N) mL_law room_1 (κ1, κ2) 1215 (LL k) [] h2 Q) : X (xScr xs N) mL_law room_1 (κ1, κ2) 1152 (LL k) [] h Q := by
  obtain ⟨fs0, z0⟩ := inv_0 inv
  refine X.aload iL_law_1152 rfl ?_
  refine X.aload iL_law_1153 rfl ?_
  refine X.iload iL_law_1154 rfl ?_
  refine X.pushi (v := nI 1) iL_law_1155 ?_
  refine X.iadd iL_law_1156 ?_
  refine X.sld iL_law_1157 (xin hk hN (by decide)) ?_
  refine X.aload iL_law_1158 rfl ?_
  refine X.iload iL_law_1159 rfl ?_
  refine X.pushi (v := nI 2) iL_law_1160 ?_
  refine X.iadd iL_law_1161 ?_
  refine X.sld iL_law_1162 (xin hk hN (by decide)) ?_
  refine X.aload iL_law_1163 rfl ?_
  refine X.iload iL_law_1164 rfl ?_
  refine X.pushi (v := nI 3) iL_law_1165 ?_
  refine X.iadd iL_law_1166 ?_
  refine X.sld iL_law_1167 (xin hk hN (by decide)) ?_
  refine X.aload iL_law_1168 rfl ?_
  refine X.iload iL_law_1169 rfl ?_
  refine X.pushi (v := nI 4) iL_law_1170 ?_
  refine X.iadd iL_law_1171 ?_
  refine X.sld iL_law_1172 (xin hk hN (by decide)) ?_
  refine X.aload iL_law_1173 rfl ?_
  refine X.iload iL_law_1174 rfl ?_
  refine X.pushi (v := nI 5) iL_law_1175 ?_
  refine X.iadd iL_law_1176 ?_
  refine X.sld iL_law_1177 (xin hk hN (by decide)) ?_
  obtain ⟨r, Q1, C1, K1⟩ := inv_copy (a := (xs (nI k + nI 1).toNatClampNeg)) (i := (xs (nI k + nI 2).toNatClampNeg)) (b := (xs (nI k + nI 3).toNatClampNeg)) (j := (xs (nI k + nI 4).toNatClampNeg)) (n := (xs (nI k + nI 5).toNatClampNeg)) inv
  refine X.callV iL_law_1178 C1 z0 rfl rfl xfit6 (Nat.le_of_ble_eq_true rfl) hκ ?_
  intro v1 h1 hq
  obtain ⟨rfl, ⟨fs, z98⟩, Q2, C2, K2⟩ := K1 v1 h1 hq
  refine X.aload iL_law_1181 rfl ?_
  refine X.aload iL_law_1182 rfl ?_
  refine X.iload iL_law_1183 rfl ?_
  refine X.pushi (v := nI 1) iL_law_1184 ?_
  refine X.iadd iL_law_1185 ?_
  refine X.sld iL_law_1186 (xin hk hN (by decide)) ?_
  refine X.aload iL_law_1187 rfl ?_
  refine X.iload iL_law_1188 rfl ?_
  refine X.pushi (v := nI 2) iL_law_1189 ?_
  refine X.iadd iL_law_1190 ?_
  refine X.sld iL_law_1191 (xin hk hN (by decide)) ?_
  refine X.aload iL_law_1192 rfl ?_
  refine X.iload iL_law_1193 rfl ?_
  refine X.pushi (v := nI 3) iL_law_1194 ?_
  refine X.iadd iL_law_1195 ?_
  refine X.sld iL_law_1196 (xin hk hN (by decide)) ?_
  refine X.aload iL_law_1197 rfl ?_
  refine X.iload iL_law_1198 rfl ?_
  refine X.pushi (v := nI 4) iL_law_1199 ?_
  refine X.iadd iL_law_1200 ?_
  refine X.sld iL_law_1201 (xin hk hN (by decide)) ?_
  refine X.aload iL_law_1202 rfl ?_
  refine X.iload iL_law_1203 rfl ?_
  refine X.pushi (v := nI 5) iL_law_1204 ?_
  refine X.iadd iL_law_1205 ?_
  refine X.sld iL_law_1206 (xin hk hN (by decide)) ?_
  refine X.callV iL_law_1207 C2 z98 rfl rfl xfit6 (Nat.le_of_ble_eq_true rfl) hκ ?_
  intro v2 h2 hq2
  obtain ⟨rfl, inv2⟩ := K2 v2 h2 hq2
  refine X.cmeq iL_law_1210 (fun c => ?_) (fun c => ?_)
  · exact K h2 inv2
  · exact absurd rfl c
theorem and31 (x : Int32) : ∃ j, j < 32 ∧ x &&& nI 31 = nI j := by
  refine ⟨(x &&& nI 31).toBitVec.toNat, ?_, ?_⟩
  · have e : (x &&& nI 31).toBitVec.toNat = x.toBitVec.toNat &&& 31 := by
      rw [Int32.toBitVec_and, BitVec.toNat_and]
      rfl
    rw [e]
    exact Nat.lt_of_le_of_lt Nat.and_le_right (by decide)
  · apply Int32.toBitVec_inj.1
    show _ = BitVec.ofNat 32 _
    simp
theorem law_end {κ1 κ2 N k : Nat} {xs : Nat → Int32} {h : XH} : X (xScr xs N) mL_law room_1 (κ1, κ2) 1221 (LL k) [] h (fun v h' => v = some (.int (bI true))) := by
  refine X.pushi (v := bI true) iL_law_1221 ?_
  exact X.zret (x := true) iL_law_1222 rfl
theorem law_loop {κ1 κ2 : Nat} (hκ : κ1 ≤ room_1.cells ∧ κ2 ≤ room_1.slots) {xs : Nat → Int32} {N : Nat} (hN : N ≤ 384) : ∀ f k h, N < k + 6 + 6 * f → INV h → k < 2 ^ 30 → X (xScr xs N) mL_law room_1 (κ1, κ2) 18 (LL k) [] h (fun v h' => v = some (.int (bI true))) := by
  intro f
  induction f with
  | zero =>
    intro k h hf inv hk0
    refine X.iload iL_law_18 rfl ?_
    refine X.aload iL_law_19 rfl ?_
    refine X.slen iL_law_20 ?_
    refine X.pushi (v := nI 6) iL_law_21 ?_
    refine X.isub iL_law_23 ?_
    refine X.cmgt iL_law_24 (fun c => law_end) (fun c => ?_)
    refine absurd ?_ c
    by_cases q : N < 6
    · exact Int32.lt_of_lt_of_le (pk_sneg (by decide) q) (nI_pos' (by omega))
    · rw [pk_sub (by omega)]
      exact nI_lt (by omega) (by omega)
  | succ f ih =>
    intro k h hf inv hk0
    refine X.iload iL_law_18 rfl ?_
    refine X.aload iL_law_19 rfl ?_
    refine X.slen iL_law_20 ?_
    refine X.pushi (v := nI 6) iL_law_21 ?_
    refine X.isub iL_law_23 ?_
    refine X.cmgt iL_law_24 (fun c => law_end) (fun c => ?_)
    have hk : k + 6 ≤ N := by
      by_cases q : N < 6
      · exact absurd (Int32.lt_of_lt_of_le (pk_sneg (by decide) q) (nI_pos' (by omega))) c
      · rw [pk_sub (by omega)] at c
        by_cases z : k + 6 ≤ N
        · exact z
        · exact absurd (nI_lt (show N - 6 < k by omega) (by omega)) c
    have K : ∀ h2, INV h2 → X (xScr xs N) mL_law room_1 (κ1, κ2) 1215 (LL k) [] h2 (fun v h' => v = some (.int (bI true))) := by
      intro h2 inv2
      refine X.iinc iL_law_1215 rfl rfl rfl ?_
      refine X.goto iL_law_1218 ?_
      have := ih (k + 6) h2 (by omega) inv2 (by omega)
      rw [show nI k + 6 = nI (k + 6) from nI_add k 6]
      exact this
    refine X.aload iL_law_27 rfl ?_
    refine X.iload iL_law_28 rfl ?_
    refine X.sld iL_law_29 (vp_inN (by omega) (by omega)) ?_
    refine X.pushi (v := nI 31) iL_law_30 ?_
    refine X.iand iL_law_32 ?_
    obtain ⟨j, hj, ej⟩ := and31 (xs (nI k).toNatClampNeg)
    rw [ej]
    by_cases e0 : j = 0
    · rw [e0]
      exact X.tabIn iL_law_33 0 rfl (by decide) (lc_tree hκ hN hk inv K)
    by_cases e1 : j = 1
    · rw [e1]
      exact X.tabIn iL_law_33 1 rfl (by decide) (lc_ladder hκ hN hk inv K)
    by_cases e2 : j = 2
    · rw [e2]
      exact X.tabIn iL_law_33 2 rfl (by decide) (lc_of hκ hN hk inv K)
    by_cases e3 : j = 3
    · rw [e3]
      exact X.tabIn iL_law_33 3 rfl (by decide) (lc_at hκ hN hk inv K)
    by_cases e4 : j = 4
    · rw [e4]
      exact X.tabIn iL_law_33 4 rfl (by decide) (lc_rule hκ hN hk inv K)
    by_cases e5 : j = 5
    · rw [e5]
      exact X.tabIn iL_law_33 5 rfl (by decide) (lc_type hκ hN hk inv K)
    by_cases e6 : j = 6
    · rw [e6]
      exact X.tabIn iL_law_33 6 rfl (by decide) (lc_orchard hκ hN hk inv K)
    by_cases e7 : j = 7
    · rw [e7]
      exact X.tabIn iL_law_33 7 rfl (by decide) (lc_count hκ hN hk inv K)
    by_cases e8 : j = 8
    · rw [e8]
      exact X.tabIn iL_law_33 8 rfl (by decide) (lc_days hκ hN hk inv K)
    by_cases e9 : j = 9
    · rw [e9]
      exact X.tabIn iL_law_33 9 rfl (by decide) (lc_lean hκ hN hk inv K)
    by_cases e10 : j = 10
    · rw [e10]
      exact X.tabIn iL_law_33 10 rfl (by decide) (lc_shake hκ hN hk inv K)
    by_cases e11 : j = 11
    · rw [e11]
      exact X.tabIn iL_law_33 11 rfl (by decide) (lc_drift hκ hN hk inv K)
    by_cases e12 : j = 12
    · rw [e12]
      exact X.tabIn iL_law_33 12 rfl (by decide) (lc_undo hκ hN hk inv K)
    by_cases e13 : j = 13
    · rw [e13]
      exact X.tabIn iL_law_33 13 rfl (by decide) (lc_seed hκ hN hk inv K)
    by_cases e14 : j = 14
    · rw [e14]
      exact X.tabIn iL_law_33 14 rfl (by decide) (lc_ahead hκ hN hk inv K)
    by_cases e15 : j = 15
    · rw [e15]
      exact X.tabIn iL_law_33 15 rfl (by decide) (lc_fruit hκ hN hk inv K)
    by_cases e16 : j = 16
    · rw [e16]
      exact X.tabIn iL_law_33 16 rfl (by decide) (lc_reached hκ hN hk inv K)
    by_cases e17 : j = 17
    · rw [e17]
      exact X.tabIn iL_law_33 17 rfl (by decide) (lc_gathered hκ hN hk inv K)
    by_cases e18 : j = 18
    · rw [e18]
      exact X.tabIn iL_law_33 18 rfl (by decide) (lc_plan hκ hN hk inv K)
    by_cases e19 : j = 19
    · rw [e19]
      exact X.tabIn iL_law_33 19 rfl (by decide) (lc_round hκ hN hk inv K)
    by_cases e20 : j = 20
    · rw [e20]
      exact X.tabIn iL_law_33 20 rfl (by decide) (lc_longer hκ hN hk inv K)
    by_cases e21 : j = 21
    · rw [e21]
      exact X.tabIn iL_law_33 21 rfl (by decide) (lc_larger hκ hN hk inv K)
    by_cases e22 : j = 22
    · rw [e22]
      exact X.tabIn iL_law_33 22 rfl (by decide) (lc_luck hκ hN hk inv K)
    by_cases e23 : j = 23
    · rw [e23]
      exact X.tabIn iL_law_33 23 rfl (by decide) (lc_image hκ hN hk inv K)
    by_cases e24 : j = 24
    · rw [e24]
      exact X.tabIn iL_law_33 24 rfl (by decide) (lc_restore hκ hN hk inv K)
    by_cases e25 : j = 25
    · rw [e25]
      exact X.tabIn iL_law_33 25 rfl (by decide) (lc_left hκ hN hk inv K)
    by_cases e26 : j = 26
    · rw [e26]
      exact X.tabIn iL_law_33 26 rfl (by decide) (lc_film hκ hN hk inv K)
    by_cases e27 : j = 27
    · rw [e27]
      exact X.tabIn iL_law_33 27 rfl (by decide) (lc_sheet hκ hN hk inv K)
    by_cases e28 : j = 28
    · rw [e28]
      exact X.tabIn iL_law_33 28 rfl (by decide) (lc_drop hκ hN hk inv K)
    by_cases e29 : j = 29
    · rw [e29]
      exact X.tabIn iL_law_33 29 rfl (by decide) (lc_item hκ hN hk inv K)
    by_cases e30 : j = 30
    · rw [e30]
      exact X.tabIn iL_law_33 30 rfl (by decide) (lc_copy hκ hN hk inv K)
    exact X.tabOut iL_law_33 (by rw [show j = 31 by omega]; decide) (K h inv)
