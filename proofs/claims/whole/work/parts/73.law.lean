/-! THE LAW: each case of its loop -/
def SX : XT → (Nat → Prop) → Nat → Nat → (Nat → Int32) → Prop
  | (_, _, _, _, s, _, _, _, _, _, _, _), A, b, L, xs => va_X b L xs s s.heap ∧ b < s.heap.size ∧ ¬ A b
abbrev LV (y : YT) (b Q : Nat) : List (Nat × Value) := [(3, .int (nI (6 * Q))), (2, .ref (yad y 49)), (1, .ref (yad y 0)), (0, .ref b)]
section LAWC
variable {x : XT} {y : YT} {A : Nat → Prop} {Z : State → Prop} {b L Q : Nat} {xs : Nat → Int32} {σ : Sto}
theorem lcmp_s (r : Int64) : lg_cmp r r = 0 := by
  unfold lg_cmp
  simp
theorem g_slen {own : String} {cc : ByteArray} {nL pc : Nat} {R : Room} {lv : List (Nat × Value)} {st : List Value} (C : Cx x y A own cc nL R) (X : SX x A b L xs) (hd : decode cc pc = .ok (.arraylength, 1)) (kk : GW x y A nL Z (pc + 1) lv (.int (nI L) :: st) σ) : GW x y A nL Z pc lv (.ref b :: st) σ := by
  obtain ⟨p, l, e, R', s, m, args, below, meth, c, kc, ks⟩ := x
  obtain ⟨hx, hb, hml, hown, hts, hR, hkc, hks, hlk, hK, hY, hAd, hStr, hSit⟩ := C
  obtain ⟨hX, hbl, hbA⟩ := X
  intro H locs ls hP hS hl
  exact va_slen hx hb hX hbl hbA hS hd (kk H locs ls hP hS hl)
theorem g_sld {own : String} {cc : ByteArray} {nL pc : Nat} {R : Room} {lv : List (Nat × Value)} {st : List Value} {n : Nat} (C : Cx x y A own cc nL R) (X : SX x A b L xs) (hn : n < L) (hL : L ≤ 3072) (hd : decode cc pc = .ok (.iaload, 1)) (kk : GW x y A nL Z (pc + 1) lv (.int (xs n) :: st) σ) : GW x y A nL Z pc lv (.int (nI n) :: .ref b :: st) σ := by
  obtain ⟨p, l, e, R', s, m, args, below, meth, c, kc, ks⟩ := x
  obtain ⟨hx, hb, hml, hown, hts, hR, hkc, hks, hlk, hK, hY, hAd, hStr, hSit⟩ := C
  obtain ⟨hX, hbl, hbA⟩ := X
  intro H locs ls hP hS hl
  refine va_sld hx hb hX hbl hbA hS (vin_n hn (by omega)) hd ?_
  rw [nI_clamp (by omega)]
  exact kk H locs ls hP hS hl
theorem g_arg {own : String} {cc : ByteArray} {nL pc : Nat} {R : Room} {lv : List (Nat × Value)} {st : List Value} {v : Int32} {j : Nat} (C : Cx x y A own cc nL R) (X : SX x A b L xs) (hv : v = nI j) (hn : 6 * Q + j < L) (hL : L ≤ 3072) (hd : decode cc pc = .ok (.iaload, 1)) (kk : GW x y A nL Z (pc + 1) lv (.int (xs (6 * Q + j)) :: st) σ) : GW x y A nL Z pc lv (.int (nI (6 * Q) + v) :: .ref b :: st) σ := by
  rw [hv, nI_add]
  exact g_sld C X hn hL hd kk
theorem hdL_X4_set : yX4_set.cls ≠ "java/lang/invoke/MethodHandle" ∧ yX4_set.cls ≠ "java/lang/invoke/VarHandle" ∧ (parseMethodDescriptor yX4_set.desc).map (fun d => d.parameters.length) = some 2 := ⟨by decide, by decide, by decide +kernel⟩
theorem hdL_X5_set : yX5_set.cls ≠ "java/lang/invoke/MethodHandle" ∧ yX5_set.cls ≠ "java/lang/invoke/VarHandle" ∧ (parseMethodDescriptor yX5_set.desc).map (fun d => d.parameters.length) = some 2 := ⟨by decide, by decide, by decide +kernel⟩
theorem lc_0 (C : Cx x y A RL cL_law 4 room_1) (X : SX x A b L xs) (hQ : 6 * Q + 6 ≤ L) (hL : L ≤ 3072) (hR : Rel Q σ) (kk : ∀ σ2, Rel (Q + 1) σ2 → GW x y A 4 Z 1517 (LV y b Q) [] σ2) : GW x y A 4 Z 224 (LV y b Q) [] σ := by
  obtain ⟨r, σ1, σ2, e1, e2, hR2⟩ := op_set (xs (6 * Q + 1)) (xs (6 * Q + 2)) Q σ (by omega) hR
  refine g_aload_n (pc := 224) C dL_law_224 rfl 2 rfl ?_
  refine g_aload_n (pc := 225) C dL_law_225 rfl 3 rfl ?_
  refine g_iload_n (pc := 226) C dL_law_226 rfl 0 rfl ?_
  refine g_iconst (v := 1) (pc := 227) C dL_law_227 (by decide) ?_
  refine g_iadd (pc := 228) C dL_law_228 ?_
  refine g_arg (pc := 229) C X (j := 1) rfl (by omega) hL dL_law_229 ?_
  refine g_aload_n (pc := 230) C dL_law_230 rfl 3 rfl ?_
  refine g_iload_n (pc := 231) C dL_law_231 rfl 0 rfl ?_
  refine g_iconst (v := 2) (pc := 232) C dL_law_232 (by decide) ?_
  refine g_iadd (pc := 233) C dL_law_233 ?_
  refine g_arg (pc := 234) C X (j := 2) rfl (by omega) hL dL_law_234 ?_
  refine g_callVi (pc := 235) (k := 0) (As := [.int (xs (6 * Q + 1)), .int (xs (6 * Q + 2))]) (rest := []) C dL_law_235 (fun l => c_X4_set l y 0 (xs (6 * Q + 1)) (xs (6 * Q + 2)) σ σ1 r e1) ⟨wm_L_13, wi_X4_set, wv_X4_set, wn_X4, wc_X4_set, hdL_X4_set⟩ ⟨rfl, rfl, Nat.le_of_ble_eq_true rfl, Nat.le_of_ble_eq_true rfl⟩ (Or.inl ⟨TX4, 7, by decide, rfl⟩) rfl (Nat.le_of_ble_eq_true rfl) ?_
  refine g_aload_n (pc := 238) C dL_law_238 rfl 1 rfl ?_
  refine g_aload_n (pc := 239) C dL_law_239 rfl 3 rfl ?_
  refine g_iload_n (pc := 240) C dL_law_240 rfl 0 rfl ?_
  refine g_iconst (v := 1) (pc := 241) C dL_law_241 (by decide) ?_
  refine g_iadd (pc := 242) C dL_law_242 ?_
  refine g_arg (pc := 243) C X (j := 1) rfl (by omega) hL dL_law_243 ?_
  refine g_aload_n (pc := 244) C dL_law_244 rfl 3 rfl ?_
  refine g_iload_n (pc := 245) C dL_law_245 rfl 0 rfl ?_
  refine g_iconst (v := 2) (pc := 246) C dL_law_246 (by decide) ?_
  refine g_iadd (pc := 247) C dL_law_247 ?_
  refine g_arg (pc := 248) C X (j := 2) rfl (by omega) hL dL_law_248 ?_
  refine g_callVi (pc := 249) (k := 49) (As := [.int (xs (6 * Q + 1)), .int (xs (6 * Q + 2))]) (rest := [.int r]) C dL_law_249 (fun l => c_X5_set l y 49 (xs (6 * Q + 1)) (xs (6 * Q + 2)) σ1 σ2 r e2) ⟨wm_L_17, wi_X5_set, wv_X5_set, wn_X5, wc_X5_set, hdL_X5_set⟩ ⟨rfl, rfl, Nat.le_of_ble_eq_true rfl, Nat.le_of_ble_eq_true rfl⟩ (Or.inl ⟨TX5, 22, by decide, rfl⟩) rfl (Nat.le_of_ble_eq_true rfl) ?_
  exact g_icmp_eq (pc := 252) (tgt := 1517) C dL_law_252 rfl (fun _ => kk σ2 hR2) (fun h => absurd rfl h)
theorem hdL_X4_booth : yX4_booth.cls ≠ "java/lang/invoke/MethodHandle" ∧ yX4_booth.cls ≠ "java/lang/invoke/VarHandle" ∧ (parseMethodDescriptor yX4_booth.desc).map (fun d => d.parameters.length) = some 1 := ⟨by decide, by decide, by decide +kernel⟩
theorem hdL_X5_booth : yX5_booth.cls ≠ "java/lang/invoke/MethodHandle" ∧ yX5_booth.cls ≠ "java/lang/invoke/VarHandle" ∧ (parseMethodDescriptor yX5_booth.desc).map (fun d => d.parameters.length) = some 1 := ⟨by decide, by decide, by decide +kernel⟩
theorem lc_1 (C : Cx x y A RL cL_law 4 room_1) (X : SX x A b L xs) (hQ : 6 * Q + 6 ≤ L) (hL : L ≤ 3072) (hR : Rel Q σ) (kk : ∀ σ2, Rel (Q + 1) σ2 → GW x y A 4 Z 1517 (LV y b Q) [] σ2) : GW x y A 4 Z 257 (LV y b Q) [] σ := by
  obtain ⟨r, σ1, σ2, e1, e2, hR2⟩ := op_booth (xs (6 * Q + 1)) Q σ (by omega) hR
  refine g_aload_n (pc := 257) C dL_law_257 rfl 2 rfl ?_
  refine g_aload_n (pc := 258) C dL_law_258 rfl 3 rfl ?_
  refine g_iload_n (pc := 259) C dL_law_259 rfl 0 rfl ?_
  refine g_iconst (v := 1) (pc := 260) C dL_law_260 (by decide) ?_
  refine g_iadd (pc := 261) C dL_law_261 ?_
  refine g_arg (pc := 262) C X (j := 1) rfl (by omega) hL dL_law_262 ?_
  refine g_callVi (pc := 263) (k := 0) (As := [.int (xs (6 * Q + 1))]) (rest := []) C dL_law_263 (fun l => c_X4_booth l y 0 (xs (6 * Q + 1)) σ σ1 r e1) ⟨wm_L_18, wi_X4_booth, wv_X4_booth, wn_X4, wc_X4_booth, hdL_X4_booth⟩ ⟨rfl, rfl, Nat.le_of_ble_eq_true rfl, Nat.le_of_ble_eq_true rfl⟩ (Or.inl ⟨TX4, 7, by decide, rfl⟩) rfl (Nat.le_of_ble_eq_true rfl) ?_
  refine g_aload_n (pc := 266) C dL_law_266 rfl 1 rfl ?_
  refine g_aload_n (pc := 267) C dL_law_267 rfl 3 rfl ?_
  refine g_iload_n (pc := 268) C dL_law_268 rfl 0 rfl ?_
  refine g_iconst (v := 1) (pc := 269) C dL_law_269 (by decide) ?_
  refine g_iadd (pc := 270) C dL_law_270 ?_
  refine g_arg (pc := 271) C X (j := 1) rfl (by omega) hL dL_law_271 ?_
  refine g_callVi (pc := 272) (k := 49) (As := [.int (xs (6 * Q + 1))]) (rest := [.int r]) C dL_law_272 (fun l => c_X5_booth l y 49 (xs (6 * Q + 1)) σ1 σ2 r e2) ⟨wm_L_22, wi_X5_booth, wv_X5_booth, wn_X5, wc_X5_booth, hdL_X5_booth⟩ ⟨rfl, rfl, Nat.le_of_ble_eq_true rfl, Nat.le_of_ble_eq_true rfl⟩ (Or.inl ⟨TX5, 22, by decide, rfl⟩) rfl (Nat.le_of_ble_eq_true rfl) ?_
  exact g_icmp_eq (pc := 275) (tgt := 1517) C dL_law_275 rfl (fun _ => kk σ2 hR2) (fun h => absurd rfl h)
theorem hdL_X4_queue : yX4_queue.cls ≠ "java/lang/invoke/MethodHandle" ∧ yX4_queue.cls ≠ "java/lang/invoke/VarHandle" ∧ (parseMethodDescriptor yX4_queue.desc).map (fun d => d.parameters.length) = some 2 := ⟨by decide, by decide, by decide +kernel⟩
theorem hdL_X5_queue : yX5_queue.cls ≠ "java/lang/invoke/MethodHandle" ∧ yX5_queue.cls ≠ "java/lang/invoke/VarHandle" ∧ (parseMethodDescriptor yX5_queue.desc).map (fun d => d.parameters.length) = some 2 := ⟨by decide, by decide, by decide +kernel⟩
theorem lc_2 (C : Cx x y A RL cL_law 4 room_1) (X : SX x A b L xs) (hQ : 6 * Q + 6 ≤ L) (hL : L ≤ 3072) (hR : Rel Q σ) (kk : ∀ σ2, Rel (Q + 1) σ2 → GW x y A 4 Z 1517 (LV y b Q) [] σ2) : GW x y A 4 Z 280 (LV y b Q) [] σ := by
  obtain ⟨r, σ1, σ2, e1, e2, hR2⟩ := op_queue (xs (6 * Q + 1)) (xs (6 * Q + 2)) Q σ (by omega) hR
  refine g_aload_n (pc := 280) C dL_law_280 rfl 2 rfl ?_
  refine g_aload_n (pc := 281) C dL_law_281 rfl 3 rfl ?_
  refine g_iload_n (pc := 282) C dL_law_282 rfl 0 rfl ?_
  refine g_iconst (v := 1) (pc := 283) C dL_law_283 (by decide) ?_
  refine g_iadd (pc := 284) C dL_law_284 ?_
  refine g_arg (pc := 285) C X (j := 1) rfl (by omega) hL dL_law_285 ?_
  refine g_aload_n (pc := 286) C dL_law_286 rfl 3 rfl ?_
  refine g_iload_n (pc := 287) C dL_law_287 rfl 0 rfl ?_
  refine g_iconst (v := 2) (pc := 288) C dL_law_288 (by decide) ?_
  refine g_iadd (pc := 289) C dL_law_289 ?_
  refine g_arg (pc := 290) C X (j := 2) rfl (by omega) hL dL_law_290 ?_
  refine g_callVi (pc := 291) (k := 0) (As := [.int (xs (6 * Q + 1)), .int (xs (6 * Q + 2))]) (rest := []) C dL_law_291 (fun l => c_X4_queue l y 0 (xs (6 * Q + 1)) (xs (6 * Q + 2)) σ σ1 r e1) ⟨wm_L_23, wi_X4_queue, wv_X4_queue, wn_X4, wc_X4_queue, hdL_X4_queue⟩ ⟨rfl, rfl, Nat.le_of_ble_eq_true rfl, Nat.le_of_ble_eq_true rfl⟩ (Or.inl ⟨TX4, 7, by decide, rfl⟩) rfl (Nat.le_of_ble_eq_true rfl) ?_
  refine g_aload_n (pc := 294) C dL_law_294 rfl 1 rfl ?_
  refine g_aload_n (pc := 295) C dL_law_295 rfl 3 rfl ?_
  refine g_iload_n (pc := 296) C dL_law_296 rfl 0 rfl ?_
  refine g_iconst (v := 1) (pc := 297) C dL_law_297 (by decide) ?_
  refine g_iadd (pc := 298) C dL_law_298 ?_
  refine g_arg (pc := 299) C X (j := 1) rfl (by omega) hL dL_law_299 ?_
  refine g_aload_n (pc := 300) C dL_law_300 rfl 3 rfl ?_
  refine g_iload_n (pc := 301) C dL_law_301 rfl 0 rfl ?_
  refine g_iconst (v := 2) (pc := 302) C dL_law_302 (by decide) ?_
  refine g_iadd (pc := 303) C dL_law_303 ?_
  refine g_arg (pc := 304) C X (j := 2) rfl (by omega) hL dL_law_304 ?_
  refine g_callVi (pc := 305) (k := 49) (As := [.int (xs (6 * Q + 1)), .int (xs (6 * Q + 2))]) (rest := [.int r]) C dL_law_305 (fun l => c_X5_queue l y 49 (xs (6 * Q + 1)) (xs (6 * Q + 2)) σ1 σ2 r e2) ⟨wm_L_26, wi_X5_queue, wv_X5_queue, wn_X5, wc_X5_queue, hdL_X5_queue⟩ ⟨rfl, rfl, Nat.le_of_ble_eq_true rfl, Nat.le_of_ble_eq_true rfl⟩ (Or.inl ⟨TX5, 22, by decide, rfl⟩) rfl (Nat.le_of_ble_eq_true rfl) ?_
  exact g_icmp_eq (pc := 308) (tgt := 1517) C dL_law_308 rfl (fun _ => kk σ2 hR2) (fun h => absurd rfl h)
theorem hdL_X4_place : yX4_place.cls ≠ "java/lang/invoke/MethodHandle" ∧ yX4_place.cls ≠ "java/lang/invoke/VarHandle" ∧ (parseMethodDescriptor yX4_place.desc).map (fun d => d.parameters.length) = some 1 := ⟨by decide, by decide, by decide +kernel⟩
theorem hdL_X5_place : yX5_place.cls ≠ "java/lang/invoke/MethodHandle" ∧ yX5_place.cls ≠ "java/lang/invoke/VarHandle" ∧ (parseMethodDescriptor yX5_place.desc).map (fun d => d.parameters.length) = some 1 := ⟨by decide, by decide, by decide +kernel⟩
theorem lc_3 (C : Cx x y A RL cL_law 4 room_1) (X : SX x A b L xs) (hQ : 6 * Q + 6 ≤ L) (hL : L ≤ 3072) (hR : Rel Q σ) (kk : ∀ σ2, Rel (Q + 1) σ2 → GW x y A 4 Z 1517 (LV y b Q) [] σ2) : GW x y A 4 Z 313 (LV y b Q) [] σ := by
  obtain ⟨r, σ1, σ2, e1, e2, hR2⟩ := op_place (xs (6 * Q + 1)) Q σ (by omega) hR
  refine g_aload_n (pc := 313) C dL_law_313 rfl 2 rfl ?_
  refine g_aload_n (pc := 314) C dL_law_314 rfl 3 rfl ?_
  refine g_iload_n (pc := 315) C dL_law_315 rfl 0 rfl ?_
  refine g_iconst (v := 1) (pc := 316) C dL_law_316 (by decide) ?_
  refine g_iadd (pc := 317) C dL_law_317 ?_
  refine g_arg (pc := 318) C X (j := 1) rfl (by omega) hL dL_law_318 ?_
  refine g_callVi (pc := 319) (k := 0) (As := [.int (xs (6 * Q + 1))]) (rest := []) C dL_law_319 (fun l => c_X4_place l y 0 (xs (6 * Q + 1)) σ σ1 r e1) ⟨wm_L_27, wi_X4_place, wv_X4_place, wn_X4, wc_X4_place, hdL_X4_place⟩ ⟨rfl, rfl, Nat.le_of_ble_eq_true rfl, Nat.le_of_ble_eq_true rfl⟩ (Or.inl ⟨TX4, 7, by decide, rfl⟩) rfl (Nat.le_of_ble_eq_true rfl) ?_
  refine g_aload_n (pc := 322) C dL_law_322 rfl 1 rfl ?_
  refine g_aload_n (pc := 323) C dL_law_323 rfl 3 rfl ?_
  refine g_iload_n (pc := 324) C dL_law_324 rfl 0 rfl ?_
  refine g_iconst (v := 1) (pc := 325) C dL_law_325 (by decide) ?_
  refine g_iadd (pc := 326) C dL_law_326 ?_
  refine g_arg (pc := 327) C X (j := 1) rfl (by omega) hL dL_law_327 ?_
  refine g_callVi (pc := 328) (k := 49) (As := [.int (xs (6 * Q + 1))]) (rest := [.int r]) C dL_law_328 (fun l => c_X5_place l y 49 (xs (6 * Q + 1)) σ1 σ2 r e2) ⟨wm_L_30, wi_X5_place, wv_X5_place, wn_X5, wc_X5_place, hdL_X5_place⟩ ⟨rfl, rfl, Nat.le_of_ble_eq_true rfl, Nat.le_of_ble_eq_true rfl⟩ (Or.inl ⟨TX5, 22, by decide, rfl⟩) rfl (Nat.le_of_ble_eq_true rfl) ?_
  exact g_icmp_eq (pc := 331) (tgt := 1517) C dL_law_331 rfl (fun _ => kk σ2 hR2) (fun h => absurd rfl h)
theorem hdL_X4_sitter : yX4_sitter.cls ≠ "java/lang/invoke/MethodHandle" ∧ yX4_sitter.cls ≠ "java/lang/invoke/VarHandle" ∧ (parseMethodDescriptor yX4_sitter.desc).map (fun d => d.parameters.length) = some 2 := ⟨by decide, by decide, by decide +kernel⟩
theorem hdL_X5_sitter : yX5_sitter.cls ≠ "java/lang/invoke/MethodHandle" ∧ yX5_sitter.cls ≠ "java/lang/invoke/VarHandle" ∧ (parseMethodDescriptor yX5_sitter.desc).map (fun d => d.parameters.length) = some 2 := ⟨by decide, by decide, by decide +kernel⟩
theorem lc_4 (C : Cx x y A RL cL_law 4 room_1) (X : SX x A b L xs) (hQ : 6 * Q + 6 ≤ L) (hL : L ≤ 3072) (hR : Rel Q σ) (kk : ∀ σ2, Rel (Q + 1) σ2 → GW x y A 4 Z 1517 (LV y b Q) [] σ2) : GW x y A 4 Z 336 (LV y b Q) [] σ := by
  obtain ⟨r, σ1, σ2, e1, e2, hR2⟩ := op_sitter (xs (6 * Q + 1)) (xs (6 * Q + 2)) Q σ (by omega) hR
  refine g_aload_n (pc := 336) C dL_law_336 rfl 2 rfl ?_
  refine g_aload_n (pc := 337) C dL_law_337 rfl 3 rfl ?_
  refine g_iload_n (pc := 338) C dL_law_338 rfl 0 rfl ?_
  refine g_iconst (v := 1) (pc := 339) C dL_law_339 (by decide) ?_
  refine g_iadd (pc := 340) C dL_law_340 ?_
  refine g_arg (pc := 341) C X (j := 1) rfl (by omega) hL dL_law_341 ?_
  refine g_aload_n (pc := 342) C dL_law_342 rfl 3 rfl ?_
  refine g_iload_n (pc := 343) C dL_law_343 rfl 0 rfl ?_
  refine g_iconst (v := 2) (pc := 344) C dL_law_344 (by decide) ?_
  refine g_iadd (pc := 345) C dL_law_345 ?_
  refine g_arg (pc := 346) C X (j := 2) rfl (by omega) hL dL_law_346 ?_
  refine g_callVi (pc := 347) (k := 0) (As := [.int (xs (6 * Q + 1)), .int (xs (6 * Q + 2))]) (rest := []) C dL_law_347 (fun l => c_X4_sitter l y 0 (xs (6 * Q + 1)) (xs (6 * Q + 2)) σ σ1 r e1) ⟨wm_L_31, wi_X4_sitter, wv_X4_sitter, wn_X4, wc_X4_sitter, hdL_X4_sitter⟩ ⟨rfl, rfl, Nat.le_of_ble_eq_true rfl, Nat.le_of_ble_eq_true rfl⟩ (Or.inl ⟨TX4, 7, by decide, rfl⟩) rfl (Nat.le_of_ble_eq_true rfl) ?_
  refine g_aload_n (pc := 350) C dL_law_350 rfl 1 rfl ?_
  refine g_aload_n (pc := 351) C dL_law_351 rfl 3 rfl ?_
  refine g_iload_n (pc := 352) C dL_law_352 rfl 0 rfl ?_
  refine g_iconst (v := 1) (pc := 353) C dL_law_353 (by decide) ?_
  refine g_iadd (pc := 354) C dL_law_354 ?_
  refine g_arg (pc := 355) C X (j := 1) rfl (by omega) hL dL_law_355 ?_
  refine g_aload_n (pc := 356) C dL_law_356 rfl 3 rfl ?_
  refine g_iload_n (pc := 357) C dL_law_357 rfl 0 rfl ?_
  refine g_iconst (v := 2) (pc := 358) C dL_law_358 (by decide) ?_
  refine g_iadd (pc := 359) C dL_law_359 ?_
  refine g_arg (pc := 360) C X (j := 2) rfl (by omega) hL dL_law_360 ?_
  refine g_callVi (pc := 361) (k := 49) (As := [.int (xs (6 * Q + 1)), .int (xs (6 * Q + 2))]) (rest := [.int r]) C dL_law_361 (fun l => c_X5_sitter l y 49 (xs (6 * Q + 1)) (xs (6 * Q + 2)) σ1 σ2 r e2) ⟨wm_L_34, wi_X5_sitter, wv_X5_sitter, wn_X5, wc_X5_sitter, hdL_X5_sitter⟩ ⟨rfl, rfl, Nat.le_of_ble_eq_true rfl, Nat.le_of_ble_eq_true rfl⟩ (Or.inl ⟨TX5, 22, by decide, rfl⟩) rfl (Nat.le_of_ble_eq_true rfl) ?_
  exact g_icmp_eq (pc := 364) (tgt := 1517) C dL_law_364 rfl (fun _ => kk σ2 hR2) (fun h => absurd rfl h)
theorem hdL_X4_of : yX4_of.cls ≠ "java/lang/invoke/MethodHandle" ∧ yX4_of.cls ≠ "java/lang/invoke/VarHandle" ∧ (parseMethodDescriptor yX4_of.desc).map (fun d => d.parameters.length) = some 2 := ⟨by decide, by decide, by decide +kernel⟩
theorem hdL_X5_of : yX5_of.cls ≠ "java/lang/invoke/MethodHandle" ∧ yX5_of.cls ≠ "java/lang/invoke/VarHandle" ∧ (parseMethodDescriptor yX5_of.desc).map (fun d => d.parameters.length) = some 2 := ⟨by decide, by decide, by decide +kernel⟩
theorem lc_5 (C : Cx x y A RL cL_law 4 room_1) (X : SX x A b L xs) (hQ : 6 * Q + 6 ≤ L) (hL : L ≤ 3072) (hR : Rel Q σ) (kk : ∀ σ2, Rel (Q + 1) σ2 → GW x y A 4 Z 1517 (LV y b Q) [] σ2) : GW x y A 4 Z 369 (LV y b Q) [] σ := by
  obtain ⟨r, σ1, σ2, e1, e2, hR2⟩ := op_of (xs (6 * Q + 1)) (xs (6 * Q + 2)) Q σ (by omega) hR
  refine g_aload_n (pc := 369) C dL_law_369 rfl 2 rfl ?_
  refine g_aload_n (pc := 370) C dL_law_370 rfl 3 rfl ?_
  refine g_iload_n (pc := 371) C dL_law_371 rfl 0 rfl ?_
  refine g_iconst (v := 1) (pc := 372) C dL_law_372 (by decide) ?_
  refine g_iadd (pc := 373) C dL_law_373 ?_
  refine g_arg (pc := 374) C X (j := 1) rfl (by omega) hL dL_law_374 ?_
  refine g_aload_n (pc := 375) C dL_law_375 rfl 3 rfl ?_
  refine g_iload_n (pc := 376) C dL_law_376 rfl 0 rfl ?_
  refine g_iconst (v := 2) (pc := 377) C dL_law_377 (by decide) ?_
  refine g_iadd (pc := 378) C dL_law_378 ?_
  refine g_arg (pc := 379) C X (j := 2) rfl (by omega) hL dL_law_379 ?_
  refine g_callVi (pc := 380) (k := 0) (As := [.int (xs (6 * Q + 1)), .int (xs (6 * Q + 2))]) (rest := []) C dL_law_380 (fun l => c_X4_of l y 0 (xs (6 * Q + 1)) (xs (6 * Q + 2)) σ σ1 r e1) ⟨wm_L_35, wi_X4_of, wv_X4_of, wn_X4, wc_X4_of, hdL_X4_of⟩ ⟨rfl, rfl, Nat.le_of_ble_eq_true rfl, Nat.le_of_ble_eq_true rfl⟩ (Or.inl ⟨TX4, 7, by decide, rfl⟩) rfl (Nat.le_of_ble_eq_true rfl) ?_
  refine g_aload_n (pc := 383) C dL_law_383 rfl 1 rfl ?_
  refine g_aload_n (pc := 384) C dL_law_384 rfl 3 rfl ?_
  refine g_iload_n (pc := 385) C dL_law_385 rfl 0 rfl ?_
  refine g_iconst (v := 1) (pc := 386) C dL_law_386 (by decide) ?_
  refine g_iadd (pc := 387) C dL_law_387 ?_
  refine g_arg (pc := 388) C X (j := 1) rfl (by omega) hL dL_law_388 ?_
  refine g_aload_n (pc := 389) C dL_law_389 rfl 3 rfl ?_
  refine g_iload_n (pc := 390) C dL_law_390 rfl 0 rfl ?_
  refine g_iconst (v := 2) (pc := 391) C dL_law_391 (by decide) ?_
  refine g_iadd (pc := 392) C dL_law_392 ?_
  refine g_arg (pc := 393) C X (j := 2) rfl (by omega) hL dL_law_393 ?_
  refine g_callVi (pc := 394) (k := 49) (As := [.int (xs (6 * Q + 1)), .int (xs (6 * Q + 2))]) (rest := [.int r]) C dL_law_394 (fun l => c_X5_of l y 49 (xs (6 * Q + 1)) (xs (6 * Q + 2)) σ1 σ2 r e2) ⟨wm_L_38, wi_X5_of, wv_X5_of, wn_X5, wc_X5_of, hdL_X5_of⟩ ⟨rfl, rfl, Nat.le_of_ble_eq_true rfl, Nat.le_of_ble_eq_true rfl⟩ (Or.inl ⟨TX5, 22, by decide, rfl⟩) rfl (Nat.le_of_ble_eq_true rfl) ?_
  exact g_icmp_eq (pc := 397) (tgt := 1517) C dL_law_397 rfl (fun _ => kk σ2 hR2) (fun h => absurd rfl h)
theorem hdL_X4_change : yX4_change.cls ≠ "java/lang/invoke/MethodHandle" ∧ yX4_change.cls ≠ "java/lang/invoke/VarHandle" ∧ (parseMethodDescriptor yX4_change.desc).map (fun d => d.parameters.length) = some 3 := ⟨by decide, by decide, by decide +kernel⟩
theorem hdL_X5_change : yX5_change.cls ≠ "java/lang/invoke/MethodHandle" ∧ yX5_change.cls ≠ "java/lang/invoke/VarHandle" ∧ (parseMethodDescriptor yX5_change.desc).map (fun d => d.parameters.length) = some 3 := ⟨by decide, by decide, by decide +kernel⟩
theorem lc_6 (C : Cx x y A RL cL_law 4 room_1) (X : SX x A b L xs) (hQ : 6 * Q + 6 ≤ L) (hL : L ≤ 3072) (hR : Rel Q σ) (kk : ∀ σ2, Rel (Q + 1) σ2 → GW x y A 4 Z 1517 (LV y b Q) [] σ2) : GW x y A 4 Z 402 (LV y b Q) [] σ := by
  obtain ⟨r, σ1, σ2, e1, e2, hR2⟩ := op_change (xs (6 * Q + 1)) (xs (6 * Q + 2)) (xs (6 * Q + 3)) Q σ (by omega) hR
  refine g_aload_n (pc := 402) C dL_law_402 rfl 2 rfl ?_
  refine g_aload_n (pc := 403) C dL_law_403 rfl 3 rfl ?_
  refine g_iload_n (pc := 404) C dL_law_404 rfl 0 rfl ?_
  refine g_iconst (v := 1) (pc := 405) C dL_law_405 (by decide) ?_
  refine g_iadd (pc := 406) C dL_law_406 ?_
  refine g_arg (pc := 407) C X (j := 1) rfl (by omega) hL dL_law_407 ?_
  refine g_aload_n (pc := 408) C dL_law_408 rfl 3 rfl ?_
  refine g_iload_n (pc := 409) C dL_law_409 rfl 0 rfl ?_
  refine g_iconst (v := 2) (pc := 410) C dL_law_410 (by decide) ?_
  refine g_iadd (pc := 411) C dL_law_411 ?_
  refine g_arg (pc := 412) C X (j := 2) rfl (by omega) hL dL_law_412 ?_
  refine g_aload_n (pc := 413) C dL_law_413 rfl 3 rfl ?_
  refine g_iload_n (pc := 414) C dL_law_414 rfl 0 rfl ?_
  refine g_iconst (v := 3) (pc := 415) C dL_law_415 (by decide) ?_
  refine g_iadd (pc := 416) C dL_law_416 ?_
  refine g_arg (pc := 417) C X (j := 3) rfl (by omega) hL dL_law_417 ?_
  refine g_callVi (pc := 418) (k := 0) (As := [.int (xs (6 * Q + 1)), .int (xs (6 * Q + 2)), .int (xs (6 * Q + 3))]) (rest := []) C dL_law_418 (fun l => c_X4_change l y 0 (xs (6 * Q + 1)) (xs (6 * Q + 2)) (xs (6 * Q + 3)) σ σ1 r e1) ⟨wm_L_39, wi_X4_change, wv_X4_change, wn_X4, wc_X4_change, hdL_X4_change⟩ ⟨rfl, rfl, Nat.le_of_ble_eq_true rfl, Nat.le_of_ble_eq_true rfl⟩ (Or.inl ⟨TX4, 7, by decide, rfl⟩) rfl (Nat.le_of_ble_eq_true rfl) ?_
  refine g_aload_n (pc := 421) C dL_law_421 rfl 1 rfl ?_
  refine g_aload_n (pc := 422) C dL_law_422 rfl 3 rfl ?_
  refine g_iload_n (pc := 423) C dL_law_423 rfl 0 rfl ?_
  refine g_iconst (v := 1) (pc := 424) C dL_law_424 (by decide) ?_
  refine g_iadd (pc := 425) C dL_law_425 ?_
  refine g_arg (pc := 426) C X (j := 1) rfl (by omega) hL dL_law_426 ?_
  refine g_aload_n (pc := 427) C dL_law_427 rfl 3 rfl ?_
  refine g_iload_n (pc := 428) C dL_law_428 rfl 0 rfl ?_
  refine g_iconst (v := 2) (pc := 429) C dL_law_429 (by decide) ?_
  refine g_iadd (pc := 430) C dL_law_430 ?_
  refine g_arg (pc := 431) C X (j := 2) rfl (by omega) hL dL_law_431 ?_
  refine g_aload_n (pc := 432) C dL_law_432 rfl 3 rfl ?_
  refine g_iload_n (pc := 433) C dL_law_433 rfl 0 rfl ?_
  refine g_iconst (v := 3) (pc := 434) C dL_law_434 (by decide) ?_
  refine g_iadd (pc := 435) C dL_law_435 ?_
  refine g_arg (pc := 436) C X (j := 3) rfl (by omega) hL dL_law_436 ?_
  refine g_callVi (pc := 437) (k := 49) (As := [.int (xs (6 * Q + 1)), .int (xs (6 * Q + 2)), .int (xs (6 * Q + 3))]) (rest := [.int r]) C dL_law_437 (fun l => c_X5_change l y 49 (xs (6 * Q + 1)) (xs (6 * Q + 2)) (xs (6 * Q + 3)) σ1 σ2 r e2) ⟨wm_L_43, wi_X5_change, wv_X5_change, wn_X5, wc_X5_change, hdL_X5_change⟩ ⟨rfl, rfl, Nat.le_of_ble_eq_true rfl, Nat.le_of_ble_eq_true rfl⟩ (Or.inl ⟨TX5, 22, by decide, rfl⟩) rfl (Nat.le_of_ble_eq_true rfl) ?_
  exact g_icmp_eq (pc := 440) (tgt := 1517) C dL_law_440 rfl (fun _ => kk σ2 hR2) (fun h => absurd rfl h)
theorem hdL_X4_faults : yX4_faults.cls ≠ "java/lang/invoke/MethodHandle" ∧ yX4_faults.cls ≠ "java/lang/invoke/VarHandle" ∧ (parseMethodDescriptor yX4_faults.desc).map (fun d => d.parameters.length) = some 2 := ⟨by decide, by decide, by decide +kernel⟩
theorem hdL_X5_faults : yX5_faults.cls ≠ "java/lang/invoke/MethodHandle" ∧ yX5_faults.cls ≠ "java/lang/invoke/VarHandle" ∧ (parseMethodDescriptor yX5_faults.desc).map (fun d => d.parameters.length) = some 2 := ⟨by decide, by decide, by decide +kernel⟩
theorem lc_7 (C : Cx x y A RL cL_law 4 room_1) (X : SX x A b L xs) (hQ : 6 * Q + 6 ≤ L) (hL : L ≤ 3072) (hR : Rel Q σ) (kk : ∀ σ2, Rel (Q + 1) σ2 → GW x y A 4 Z 1517 (LV y b Q) [] σ2) : GW x y A 4 Z 445 (LV y b Q) [] σ := by
  obtain ⟨r, σ1, σ2, e1, e2, hR2⟩ := op_faults (xs (6 * Q + 1)) (xs (6 * Q + 2)) Q σ (by omega) hR
  refine g_aload_n (pc := 445) C dL_law_445 rfl 2 rfl ?_
  refine g_aload_n (pc := 446) C dL_law_446 rfl 3 rfl ?_
  refine g_iload_n (pc := 447) C dL_law_447 rfl 0 rfl ?_
  refine g_iconst (v := 1) (pc := 448) C dL_law_448 (by decide) ?_
  refine g_iadd (pc := 449) C dL_law_449 ?_
  refine g_arg (pc := 450) C X (j := 1) rfl (by omega) hL dL_law_450 ?_
  refine g_aload_n (pc := 451) C dL_law_451 rfl 3 rfl ?_
  refine g_iload_n (pc := 452) C dL_law_452 rfl 0 rfl ?_
  refine g_iconst (v := 2) (pc := 453) C dL_law_453 (by decide) ?_
  refine g_iadd (pc := 454) C dL_law_454 ?_
  refine g_arg (pc := 455) C X (j := 2) rfl (by omega) hL dL_law_455 ?_
  refine g_callVi (pc := 456) (k := 0) (As := [.int (xs (6 * Q + 1)), .int (xs (6 * Q + 2))]) (rest := []) C dL_law_456 (fun l => c_X4_faults l y 0 (xs (6 * Q + 1)) (xs (6 * Q + 2)) σ σ1 r e1) ⟨wm_L_44, wi_X4_faults, wv_X4_faults, wn_X4, wc_X4_faults, hdL_X4_faults⟩ ⟨rfl, rfl, Nat.le_of_ble_eq_true rfl, Nat.le_of_ble_eq_true rfl⟩ (Or.inl ⟨TX4, 7, by decide, rfl⟩) rfl (Nat.le_of_ble_eq_true rfl) ?_
  refine g_aload_n (pc := 459) C dL_law_459 rfl 1 rfl ?_
  refine g_aload_n (pc := 460) C dL_law_460 rfl 3 rfl ?_
  refine g_iload_n (pc := 461) C dL_law_461 rfl 0 rfl ?_
  refine g_iconst (v := 1) (pc := 462) C dL_law_462 (by decide) ?_
  refine g_iadd (pc := 463) C dL_law_463 ?_
  refine g_arg (pc := 464) C X (j := 1) rfl (by omega) hL dL_law_464 ?_
  refine g_aload_n (pc := 465) C dL_law_465 rfl 3 rfl ?_
  refine g_iload_n (pc := 466) C dL_law_466 rfl 0 rfl ?_
  refine g_iconst (v := 2) (pc := 467) C dL_law_467 (by decide) ?_
  refine g_iadd (pc := 468) C dL_law_468 ?_
  refine g_arg (pc := 469) C X (j := 2) rfl (by omega) hL dL_law_469 ?_
  refine g_callVi (pc := 470) (k := 49) (As := [.int (xs (6 * Q + 1)), .int (xs (6 * Q + 2))]) (rest := [.int r]) C dL_law_470 (fun l => c_X5_faults l y 49 (xs (6 * Q + 1)) (xs (6 * Q + 2)) σ1 σ2 r e2) ⟨wm_L_47, wi_X5_faults, wv_X5_faults, wn_X5, wc_X5_faults, hdL_X5_faults⟩ ⟨rfl, rfl, Nat.le_of_ble_eq_true rfl, Nat.le_of_ble_eq_true rfl⟩ (Or.inl ⟨TX5, 22, by decide, rfl⟩) rfl (Nat.le_of_ble_eq_true rfl) ?_
  exact g_icmp_eq (pc := 473) (tgt := 1517) C dL_law_473 rfl (fun _ => kk σ2 hR2) (fun h => absurd rfl h)
theorem hdL_X4_best : yX4_best.cls ≠ "java/lang/invoke/MethodHandle" ∧ yX4_best.cls ≠ "java/lang/invoke/VarHandle" ∧ (parseMethodDescriptor yX4_best.desc).map (fun d => d.parameters.length) = some 1 := ⟨by decide, by decide, by decide +kernel⟩
theorem hdL_X5_best : yX5_best.cls ≠ "java/lang/invoke/MethodHandle" ∧ yX5_best.cls ≠ "java/lang/invoke/VarHandle" ∧ (parseMethodDescriptor yX5_best.desc).map (fun d => d.parameters.length) = some 1 := ⟨by decide, by decide, by decide +kernel⟩
theorem lc_8 (C : Cx x y A RL cL_law 4 room_1) (X : SX x A b L xs) (hQ : 6 * Q + 6 ≤ L) (hL : L ≤ 3072) (hR : Rel Q σ) (kk : ∀ σ2, Rel (Q + 1) σ2 → GW x y A 4 Z 1517 (LV y b Q) [] σ2) : GW x y A 4 Z 478 (LV y b Q) [] σ := by
  obtain ⟨r, σ1, σ2, e1, e2, hR2⟩ := op_best (xs (6 * Q + 1)) Q σ (by omega) hR
  refine g_aload_n (pc := 478) C dL_law_478 rfl 2 rfl ?_
  refine g_aload_n (pc := 479) C dL_law_479 rfl 3 rfl ?_
  refine g_iload_n (pc := 480) C dL_law_480 rfl 0 rfl ?_
  refine g_iconst (v := 1) (pc := 481) C dL_law_481 (by decide) ?_
  refine g_iadd (pc := 482) C dL_law_482 ?_
  refine g_arg (pc := 483) C X (j := 1) rfl (by omega) hL dL_law_483 ?_
  refine g_callVi (pc := 484) (k := 0) (As := [.int (xs (6 * Q + 1))]) (rest := []) C dL_law_484 (fun l => c_X4_best l y 0 (xs (6 * Q + 1)) σ σ1 r e1) ⟨wm_L_48, wi_X4_best, wv_X4_best, wn_X4, wc_X4_best, hdL_X4_best⟩ ⟨rfl, rfl, Nat.le_of_ble_eq_true rfl, Nat.le_of_ble_eq_true rfl⟩ (Or.inl ⟨TX4, 7, by decide, rfl⟩) rfl (Nat.le_of_ble_eq_true rfl) ?_
  refine g_aload_n (pc := 487) C dL_law_487 rfl 1 rfl ?_
  refine g_aload_n (pc := 488) C dL_law_488 rfl 3 rfl ?_
  refine g_iload_n (pc := 489) C dL_law_489 rfl 0 rfl ?_
  refine g_iconst (v := 1) (pc := 490) C dL_law_490 (by decide) ?_
  refine g_iadd (pc := 491) C dL_law_491 ?_
  refine g_arg (pc := 492) C X (j := 1) rfl (by omega) hL dL_law_492 ?_
  refine g_callVi (pc := 493) (k := 49) (As := [.int (xs (6 * Q + 1))]) (rest := [.int r]) C dL_law_493 (fun l => c_X5_best l y 49 (xs (6 * Q + 1)) σ1 σ2 r e2) ⟨wm_L_51, wi_X5_best, wv_X5_best, wn_X5, wc_X5_best, hdL_X5_best⟩ ⟨rfl, rfl, Nat.le_of_ble_eq_true rfl, Nat.le_of_ble_eq_true rfl⟩ (Or.inl ⟨TX5, 22, by decide, rfl⟩) rfl (Nat.le_of_ble_eq_true rfl) ?_
  exact g_icmp_eq (pc := 496) (tgt := 1517) C dL_law_496 rfl (fun _ => kk σ2 hR2) (fun h => absurd rfl h)
theorem hdL_X4_go : yX4_go.cls ≠ "java/lang/invoke/MethodHandle" ∧ yX4_go.cls ≠ "java/lang/invoke/VarHandle" ∧ (parseMethodDescriptor yX4_go.desc).map (fun d => d.parameters.length) = some 1 := ⟨by decide, by decide, by decide +kernel⟩
theorem hdL_X5_go : yX5_go.cls ≠ "java/lang/invoke/MethodHandle" ∧ yX5_go.cls ≠ "java/lang/invoke/VarHandle" ∧ (parseMethodDescriptor yX5_go.desc).map (fun d => d.parameters.length) = some 1 := ⟨by decide, by decide, by decide +kernel⟩
theorem lc_9 (C : Cx x y A RL cL_law 4 room_1) (X : SX x A b L xs) (hQ : 6 * Q + 6 ≤ L) (hL : L ≤ 3072) (hR : Rel Q σ) (kk : ∀ σ2, Rel (Q + 1) σ2 → GW x y A 4 Z 1517 (LV y b Q) [] σ2) : GW x y A 4 Z 501 (LV y b Q) [] σ := by
  obtain ⟨r, σ1, σ2, e1, e2, hR2⟩ := op_go (xs (6 * Q + 1)) Q σ (by omega) hR
  refine g_aload_n (pc := 501) C dL_law_501 rfl 2 rfl ?_
  refine g_aload_n (pc := 502) C dL_law_502 rfl 3 rfl ?_
  refine g_iload_n (pc := 503) C dL_law_503 rfl 0 rfl ?_
  refine g_iconst (v := 1) (pc := 504) C dL_law_504 (by decide) ?_
  refine g_iadd (pc := 505) C dL_law_505 ?_
  refine g_arg (pc := 506) C X (j := 1) rfl (by omega) hL dL_law_506 ?_
  refine g_callVi (pc := 507) (k := 0) (As := [.int (xs (6 * Q + 1))]) (rest := []) C dL_law_507 (fun l => c_X4_go l y 0 (xs (6 * Q + 1)) σ σ1 r e1) ⟨wm_L_52, wi_X4_go, wv_X4_go, wn_X4, wc_X4_go, hdL_X4_go⟩ ⟨rfl, rfl, Nat.le_of_ble_eq_true rfl, Nat.le_of_ble_eq_true rfl⟩ (Or.inl ⟨TX4, 7, by decide, rfl⟩) rfl (Nat.le_of_ble_eq_true rfl) ?_
  refine g_aload_n (pc := 510) C dL_law_510 rfl 1 rfl ?_
  refine g_aload_n (pc := 511) C dL_law_511 rfl 3 rfl ?_
  refine g_iload_n (pc := 512) C dL_law_512 rfl 0 rfl ?_
  refine g_iconst (v := 1) (pc := 513) C dL_law_513 (by decide) ?_
  refine g_iadd (pc := 514) C dL_law_514 ?_
  refine g_arg (pc := 515) C X (j := 1) rfl (by omega) hL dL_law_515 ?_
  refine g_callVi (pc := 516) (k := 49) (As := [.int (xs (6 * Q + 1))]) (rest := [.int r]) C dL_law_516 (fun l => c_X5_go l y 49 (xs (6 * Q + 1)) σ1 σ2 r e2) ⟨wm_L_55, wi_X5_go, wv_X5_go, wn_X5, wc_X5_go, hdL_X5_go⟩ ⟨rfl, rfl, Nat.le_of_ble_eq_true rfl, Nat.le_of_ble_eq_true rfl⟩ (Or.inl ⟨TX5, 22, by decide, rfl⟩) rfl (Nat.le_of_ble_eq_true rfl) ?_
  exact g_icmp_eq (pc := 519) (tgt := 1517) C dL_law_519 rfl (fun _ => kk σ2 hR2) (fun h => absurd rfl h)
theorem hdL_X4_now : yX4_now.cls ≠ "java/lang/invoke/MethodHandle" ∧ yX4_now.cls ≠ "java/lang/invoke/VarHandle" ∧ (parseMethodDescriptor yX4_now.desc).map (fun d => d.parameters.length) = some 1 := ⟨by decide, by decide, by decide +kernel⟩
theorem hdL_X5_now : yX5_now.cls ≠ "java/lang/invoke/MethodHandle" ∧ yX5_now.cls ≠ "java/lang/invoke/VarHandle" ∧ (parseMethodDescriptor yX5_now.desc).map (fun d => d.parameters.length) = some 1 := ⟨by decide, by decide, by decide +kernel⟩
theorem lc_10 (C : Cx x y A RL cL_law 4 room_1) (X : SX x A b L xs) (hQ : 6 * Q + 6 ≤ L) (hL : L ≤ 3072) (hR : Rel Q σ) (kk : ∀ σ2, Rel (Q + 1) σ2 → GW x y A 4 Z 1517 (LV y b Q) [] σ2) : GW x y A 4 Z 524 (LV y b Q) [] σ := by
  obtain ⟨r, σ1, σ2, e1, e2, hR2⟩ := op_now (xs (6 * Q + 1)) Q σ (by omega) hR
  refine g_aload_n (pc := 524) C dL_law_524 rfl 2 rfl ?_
  refine g_aload_n (pc := 525) C dL_law_525 rfl 3 rfl ?_
  refine g_iload_n (pc := 526) C dL_law_526 rfl 0 rfl ?_
  refine g_iconst (v := 1) (pc := 527) C dL_law_527 (by decide) ?_
  refine g_iadd (pc := 528) C dL_law_528 ?_
  refine g_arg (pc := 529) C X (j := 1) rfl (by omega) hL dL_law_529 ?_
  refine g_callVi (pc := 530) (k := 0) (As := [.int (xs (6 * Q + 1))]) (rest := []) C dL_law_530 (fun l => c_X4_now l y 0 (xs (6 * Q + 1)) σ σ1 r e1) ⟨wm_L_56, wi_X4_now, wv_X4_now, wn_X4, wc_X4_now, hdL_X4_now⟩ ⟨rfl, rfl, Nat.le_of_ble_eq_true rfl, Nat.le_of_ble_eq_true rfl⟩ (Or.inl ⟨TX4, 7, by decide, rfl⟩) rfl (Nat.le_of_ble_eq_true rfl) ?_
  refine g_aload_n (pc := 533) C dL_law_533 rfl 1 rfl ?_
  refine g_aload_n (pc := 534) C dL_law_534 rfl 3 rfl ?_
  refine g_iload_n (pc := 535) C dL_law_535 rfl 0 rfl ?_
  refine g_iconst (v := 1) (pc := 536) C dL_law_536 (by decide) ?_
  refine g_iadd (pc := 537) C dL_law_537 ?_
  refine g_arg (pc := 538) C X (j := 1) rfl (by omega) hL dL_law_538 ?_
  refine g_callVi (pc := 539) (k := 49) (As := [.int (xs (6 * Q + 1))]) (rest := [.int r]) C dL_law_539 (fun l => c_X5_now l y 49 (xs (6 * Q + 1)) σ1 σ2 r e2) ⟨wm_L_59, wi_X5_now, wv_X5_now, wn_X5, wc_X5_now, hdL_X5_now⟩ ⟨rfl, rfl, Nat.le_of_ble_eq_true rfl, Nat.le_of_ble_eq_true rfl⟩ (Or.inl ⟨TX5, 22, by decide, rfl⟩) rfl (Nat.le_of_ble_eq_true rfl) ?_
  exact g_icmp_eq (pc := 542) (tgt := 1517) C dL_law_542 rfl (fun _ => kk σ2 hR2) (fun h => absurd rfl h)
theorem hdL_X4_ahead : yX4_ahead.cls ≠ "java/lang/invoke/MethodHandle" ∧ yX4_ahead.cls ≠ "java/lang/invoke/VarHandle" ∧ (parseMethodDescriptor yX4_ahead.desc).map (fun d => d.parameters.length) = some 3 := ⟨by decide, by decide, by decide +kernel⟩
theorem hdL_X5_ahead : yX5_ahead.cls ≠ "java/lang/invoke/MethodHandle" ∧ yX5_ahead.cls ≠ "java/lang/invoke/VarHandle" ∧ (parseMethodDescriptor yX5_ahead.desc).map (fun d => d.parameters.length) = some 3 := ⟨by decide, by decide, by decide +kernel⟩
theorem lc_11 (C : Cx x y A RL cL_law 4 room_1) (X : SX x A b L xs) (hQ : 6 * Q + 6 ≤ L) (hL : L ≤ 3072) (hR : Rel Q σ) (kk : ∀ σ2, Rel (Q + 1) σ2 → GW x y A 4 Z 1517 (LV y b Q) [] σ2) : GW x y A 4 Z 547 (LV y b Q) [] σ := by
  obtain ⟨r, σ1, σ2, e1, e2, hR2⟩ := op_ahead (xs (6 * Q + 1)) (xs (6 * Q + 2)) (xs (6 * Q + 3)) Q σ (by omega) hR
  refine g_aload_n (pc := 547) C dL_law_547 rfl 2 rfl ?_
  refine g_aload_n (pc := 548) C dL_law_548 rfl 3 rfl ?_
  refine g_iload_n (pc := 549) C dL_law_549 rfl 0 rfl ?_
  refine g_iconst (v := 1) (pc := 550) C dL_law_550 (by decide) ?_
  refine g_iadd (pc := 551) C dL_law_551 ?_
  refine g_arg (pc := 552) C X (j := 1) rfl (by omega) hL dL_law_552 ?_
  refine g_aload_n (pc := 553) C dL_law_553 rfl 3 rfl ?_
  refine g_iload_n (pc := 554) C dL_law_554 rfl 0 rfl ?_
  refine g_iconst (v := 2) (pc := 555) C dL_law_555 (by decide) ?_
  refine g_iadd (pc := 556) C dL_law_556 ?_
  refine g_arg (pc := 557) C X (j := 2) rfl (by omega) hL dL_law_557 ?_
  refine g_aload_n (pc := 558) C dL_law_558 rfl 3 rfl ?_
  refine g_iload_n (pc := 559) C dL_law_559 rfl 0 rfl ?_
  refine g_iconst (v := 3) (pc := 560) C dL_law_560 (by decide) ?_
  refine g_iadd (pc := 561) C dL_law_561 ?_
  refine g_arg (pc := 562) C X (j := 3) rfl (by omega) hL dL_law_562 ?_
  refine g_callVi (pc := 563) (k := 0) (As := [.int (xs (6 * Q + 1)), .int (xs (6 * Q + 2)), .int (xs (6 * Q + 3))]) (rest := []) C dL_law_563 (fun l => c_X4_ahead l y 0 (xs (6 * Q + 1)) (xs (6 * Q + 2)) (xs (6 * Q + 3)) σ σ1 r e1) ⟨wm_L_60, wi_X4_ahead, wv_X4_ahead, wn_X4, wc_X4_ahead, hdL_X4_ahead⟩ ⟨rfl, rfl, Nat.le_of_ble_eq_true rfl, Nat.le_of_ble_eq_true rfl⟩ (Or.inl ⟨TX4, 7, by decide, rfl⟩) rfl (Nat.le_of_ble_eq_true rfl) ?_
  refine g_aload_n (pc := 566) C dL_law_566 rfl 1 rfl ?_
  refine g_aload_n (pc := 567) C dL_law_567 rfl 3 rfl ?_
  refine g_iload_n (pc := 568) C dL_law_568 rfl 0 rfl ?_
  refine g_iconst (v := 1) (pc := 569) C dL_law_569 (by decide) ?_
  refine g_iadd (pc := 570) C dL_law_570 ?_
  refine g_arg (pc := 571) C X (j := 1) rfl (by omega) hL dL_law_571 ?_
  refine g_aload_n (pc := 572) C dL_law_572 rfl 3 rfl ?_
  refine g_iload_n (pc := 573) C dL_law_573 rfl 0 rfl ?_
  refine g_iconst (v := 2) (pc := 574) C dL_law_574 (by decide) ?_
  refine g_iadd (pc := 575) C dL_law_575 ?_
  refine g_arg (pc := 576) C X (j := 2) rfl (by omega) hL dL_law_576 ?_
  refine g_aload_n (pc := 577) C dL_law_577 rfl 3 rfl ?_
  refine g_iload_n (pc := 578) C dL_law_578 rfl 0 rfl ?_
  refine g_iconst (v := 3) (pc := 579) C dL_law_579 (by decide) ?_
  refine g_iadd (pc := 580) C dL_law_580 ?_
  refine g_arg (pc := 581) C X (j := 3) rfl (by omega) hL dL_law_581 ?_
  refine g_callVi (pc := 582) (k := 49) (As := [.int (xs (6 * Q + 1)), .int (xs (6 * Q + 2)), .int (xs (6 * Q + 3))]) (rest := [.int r]) C dL_law_582 (fun l => c_X5_ahead l y 49 (xs (6 * Q + 1)) (xs (6 * Q + 2)) (xs (6 * Q + 3)) σ1 σ2 r e2) ⟨wm_L_63, wi_X5_ahead, wv_X5_ahead, wn_X5, wc_X5_ahead, hdL_X5_ahead⟩ ⟨rfl, rfl, Nat.le_of_ble_eq_true rfl, Nat.le_of_ble_eq_true rfl⟩ (Or.inl ⟨TX5, 22, by decide, rfl⟩) rfl (Nat.le_of_ble_eq_true rfl) ?_
  exact g_icmp_eq (pc := 585) (tgt := 1517) C dL_law_585 rfl (fun _ => kk σ2 hR2) (fun h => absurd rfl h)
theorem hdL_X4_later : yX4_later.cls ≠ "java/lang/invoke/MethodHandle" ∧ yX4_later.cls ≠ "java/lang/invoke/VarHandle" ∧ (parseMethodDescriptor yX4_later.desc).map (fun d => d.parameters.length) = some 2 := ⟨by decide, by decide, by decide +kernel⟩
theorem hdL_X5_later : yX5_later.cls ≠ "java/lang/invoke/MethodHandle" ∧ yX5_later.cls ≠ "java/lang/invoke/VarHandle" ∧ (parseMethodDescriptor yX5_later.desc).map (fun d => d.parameters.length) = some 2 := ⟨by decide, by decide, by decide +kernel⟩
theorem lc_12 (C : Cx x y A RL cL_law 4 room_1) (X : SX x A b L xs) (hQ : 6 * Q + 6 ≤ L) (hL : L ≤ 3072) (hR : Rel Q σ) (kk : ∀ σ2, Rel (Q + 1) σ2 → GW x y A 4 Z 1517 (LV y b Q) [] σ2) : GW x y A 4 Z 590 (LV y b Q) [] σ := by
  obtain ⟨r, σ1, σ2, e1, e2, hR2⟩ := op_later (xs (6 * Q + 1)) (xs (6 * Q + 2)) Q σ (by omega) hR
  refine g_aload_n (pc := 590) C dL_law_590 rfl 2 rfl ?_
  refine g_aload_n (pc := 591) C dL_law_591 rfl 3 rfl ?_
  refine g_iload_n (pc := 592) C dL_law_592 rfl 0 rfl ?_
  refine g_iconst (v := 1) (pc := 593) C dL_law_593 (by decide) ?_
  refine g_iadd (pc := 594) C dL_law_594 ?_
  refine g_arg (pc := 595) C X (j := 1) rfl (by omega) hL dL_law_595 ?_
  refine g_aload_n (pc := 596) C dL_law_596 rfl 3 rfl ?_
  refine g_iload_n (pc := 597) C dL_law_597 rfl 0 rfl ?_
  refine g_iconst (v := 2) (pc := 598) C dL_law_598 (by decide) ?_
  refine g_iadd (pc := 599) C dL_law_599 ?_
  refine g_arg (pc := 600) C X (j := 2) rfl (by omega) hL dL_law_600 ?_
  refine g_callVi (pc := 601) (k := 0) (As := [.int (xs (6 * Q + 1)), .int (xs (6 * Q + 2))]) (rest := []) C dL_law_601 (fun l => c_X4_later l y 0 (xs (6 * Q + 1)) (xs (6 * Q + 2)) σ σ1 r e1) ⟨wm_L_64, wi_X4_later, wv_X4_later, wn_X4, wc_X4_later, hdL_X4_later⟩ ⟨rfl, rfl, Nat.le_of_ble_eq_true rfl, Nat.le_of_ble_eq_true rfl⟩ (Or.inl ⟨TX4, 7, by decide, rfl⟩) rfl (Nat.le_of_ble_eq_true rfl) ?_
  refine g_aload_n (pc := 604) C dL_law_604 rfl 1 rfl ?_
  refine g_aload_n (pc := 605) C dL_law_605 rfl 3 rfl ?_
  refine g_iload_n (pc := 606) C dL_law_606 rfl 0 rfl ?_
  refine g_iconst (v := 1) (pc := 607) C dL_law_607 (by decide) ?_
  refine g_iadd (pc := 608) C dL_law_608 ?_
  refine g_arg (pc := 609) C X (j := 1) rfl (by omega) hL dL_law_609 ?_
  refine g_aload_n (pc := 610) C dL_law_610 rfl 3 rfl ?_
  refine g_iload_n (pc := 611) C dL_law_611 rfl 0 rfl ?_
  refine g_iconst (v := 2) (pc := 612) C dL_law_612 (by decide) ?_
  refine g_iadd (pc := 613) C dL_law_613 ?_
  refine g_arg (pc := 614) C X (j := 2) rfl (by omega) hL dL_law_614 ?_
  refine g_callVi (pc := 615) (k := 49) (As := [.int (xs (6 * Q + 1)), .int (xs (6 * Q + 2))]) (rest := [.int r]) C dL_law_615 (fun l => c_X5_later l y 49 (xs (6 * Q + 1)) (xs (6 * Q + 2)) σ1 σ2 r e2) ⟨wm_L_67, wi_X5_later, wv_X5_later, wn_X5, wc_X5_later, hdL_X5_later⟩ ⟨rfl, rfl, Nat.le_of_ble_eq_true rfl, Nat.le_of_ble_eq_true rfl⟩ (Or.inl ⟨TX5, 22, by decide, rfl⟩) rfl (Nat.le_of_ble_eq_true rfl) ?_
  exact g_icmp_eq (pc := 618) (tgt := 1517) C dL_law_618 rfl (fun _ => kk σ2 hR2) (fun h => absurd rfl h)
theorem hdL_X4_when : yX4_when.cls ≠ "java/lang/invoke/MethodHandle" ∧ yX4_when.cls ≠ "java/lang/invoke/VarHandle" ∧ (parseMethodDescriptor yX4_when.desc).map (fun d => d.parameters.length) = some 2 := ⟨by decide, by decide, by decide +kernel⟩
theorem hdL_X5_when : yX5_when.cls ≠ "java/lang/invoke/MethodHandle" ∧ yX5_when.cls ≠ "java/lang/invoke/VarHandle" ∧ (parseMethodDescriptor yX5_when.desc).map (fun d => d.parameters.length) = some 2 := ⟨by decide, by decide, by decide +kernel⟩
theorem lc_13 (C : Cx x y A RL cL_law 4 room_1) (X : SX x A b L xs) (hQ : 6 * Q + 6 ≤ L) (hL : L ≤ 3072) (hR : Rel Q σ) (kk : ∀ σ2, Rel (Q + 1) σ2 → GW x y A 4 Z 1517 (LV y b Q) [] σ2) : GW x y A 4 Z 623 (LV y b Q) [] σ := by
  obtain ⟨r, σ1, σ2, e1, e2, hR2⟩ := op_when (xs (6 * Q + 1)) (xs (6 * Q + 2)) Q σ (by omega) hR
  refine g_aload_n (pc := 623) C dL_law_623 rfl 2 rfl ?_
  refine g_aload_n (pc := 624) C dL_law_624 rfl 3 rfl ?_
  refine g_iload_n (pc := 625) C dL_law_625 rfl 0 rfl ?_
  refine g_iconst (v := 1) (pc := 626) C dL_law_626 (by decide) ?_
  refine g_iadd (pc := 627) C dL_law_627 ?_
  refine g_arg (pc := 628) C X (j := 1) rfl (by omega) hL dL_law_628 ?_
  refine g_aload_n (pc := 629) C dL_law_629 rfl 3 rfl ?_
  refine g_iload_n (pc := 630) C dL_law_630 rfl 0 rfl ?_
  refine g_iconst (v := 2) (pc := 631) C dL_law_631 (by decide) ?_
  refine g_iadd (pc := 632) C dL_law_632 ?_
  refine g_arg (pc := 633) C X (j := 2) rfl (by omega) hL dL_law_633 ?_
  refine g_callVi (pc := 634) (k := 0) (As := [.int (xs (6 * Q + 1)), .int (xs (6 * Q + 2))]) (rest := []) C dL_law_634 (fun l => c_X4_when l y 0 (xs (6 * Q + 1)) (xs (6 * Q + 2)) σ σ1 r e1) ⟨wm_L_68, wi_X4_when, wv_X4_when, wn_X4, wc_X4_when, hdL_X4_when⟩ ⟨rfl, rfl, Nat.le_of_ble_eq_true rfl, Nat.le_of_ble_eq_true rfl⟩ (Or.inl ⟨TX4, 7, by decide, rfl⟩) rfl (Nat.le_of_ble_eq_true rfl) ?_
  refine g_aload_n (pc := 637) C dL_law_637 rfl 1 rfl ?_
  refine g_aload_n (pc := 638) C dL_law_638 rfl 3 rfl ?_
  refine g_iload_n (pc := 639) C dL_law_639 rfl 0 rfl ?_
  refine g_iconst (v := 1) (pc := 640) C dL_law_640 (by decide) ?_
  refine g_iadd (pc := 641) C dL_law_641 ?_
  refine g_arg (pc := 642) C X (j := 1) rfl (by omega) hL dL_law_642 ?_
  refine g_aload_n (pc := 643) C dL_law_643 rfl 3 rfl ?_
  refine g_iload_n (pc := 644) C dL_law_644 rfl 0 rfl ?_
  refine g_iconst (v := 2) (pc := 645) C dL_law_645 (by decide) ?_
  refine g_iadd (pc := 646) C dL_law_646 ?_
  refine g_arg (pc := 647) C X (j := 2) rfl (by omega) hL dL_law_647 ?_
  refine g_callVi (pc := 648) (k := 49) (As := [.int (xs (6 * Q + 1)), .int (xs (6 * Q + 2))]) (rest := [.int r]) C dL_law_648 (fun l => c_X5_when l y 49 (xs (6 * Q + 1)) (xs (6 * Q + 2)) σ1 σ2 r e2) ⟨wm_L_71, wi_X5_when, wv_X5_when, wn_X5, wc_X5_when, hdL_X5_when⟩ ⟨rfl, rfl, Nat.le_of_ble_eq_true rfl, Nat.le_of_ble_eq_true rfl⟩ (Or.inl ⟨TX5, 22, by decide, rfl⟩) rfl (Nat.le_of_ble_eq_true rfl) ?_
  exact g_icmp_eq (pc := 651) (tgt := 1517) C dL_law_651 rfl (fun _ => kk σ2 hR2) (fun h => absurd rfl h)
theorem hdL_X4_broke : yX4_broke.cls ≠ "java/lang/invoke/MethodHandle" ∧ yX4_broke.cls ≠ "java/lang/invoke/VarHandle" ∧ (parseMethodDescriptor yX4_broke.desc).map (fun d => d.parameters.length) = some 1 := ⟨by decide, by decide, by decide +kernel⟩
theorem hdL_X5_broke : yX5_broke.cls ≠ "java/lang/invoke/MethodHandle" ∧ yX5_broke.cls ≠ "java/lang/invoke/VarHandle" ∧ (parseMethodDescriptor yX5_broke.desc).map (fun d => d.parameters.length) = some 1 := ⟨by decide, by decide, by decide +kernel⟩
theorem lc_14 (C : Cx x y A RL cL_law 4 room_1) (X : SX x A b L xs) (hQ : 6 * Q + 6 ≤ L) (hL : L ≤ 3072) (hR : Rel Q σ) (kk : ∀ σ2, Rel (Q + 1) σ2 → GW x y A 4 Z 1517 (LV y b Q) [] σ2) : GW x y A 4 Z 656 (LV y b Q) [] σ := by
  obtain ⟨r, σ1, σ2, e1, e2, hR2⟩ := op_broke (xs (6 * Q + 1)) Q σ (by omega) hR
  refine g_aload_n (pc := 656) C dL_law_656 rfl 2 rfl ?_
  refine g_aload_n (pc := 657) C dL_law_657 rfl 3 rfl ?_
  refine g_iload_n (pc := 658) C dL_law_658 rfl 0 rfl ?_
  refine g_iconst (v := 1) (pc := 659) C dL_law_659 (by decide) ?_
  refine g_iadd (pc := 660) C dL_law_660 ?_
  refine g_arg (pc := 661) C X (j := 1) rfl (by omega) hL dL_law_661 ?_
  refine g_callVi (pc := 662) (k := 0) (As := [.int (xs (6 * Q + 1))]) (rest := []) C dL_law_662 (fun l => c_X4_broke l y 0 (xs (6 * Q + 1)) σ σ1 r e1) ⟨wm_L_72, wi_X4_broke, wv_X4_broke, wn_X4, wc_X4_broke, hdL_X4_broke⟩ ⟨rfl, rfl, Nat.le_of_ble_eq_true rfl, Nat.le_of_ble_eq_true rfl⟩ (Or.inl ⟨TX4, 7, by decide, rfl⟩) rfl (Nat.le_of_ble_eq_true rfl) ?_
  refine g_aload_n (pc := 665) C dL_law_665 rfl 1 rfl ?_
  refine g_aload_n (pc := 666) C dL_law_666 rfl 3 rfl ?_
  refine g_iload_n (pc := 667) C dL_law_667 rfl 0 rfl ?_
  refine g_iconst (v := 1) (pc := 668) C dL_law_668 (by decide) ?_
  refine g_iadd (pc := 669) C dL_law_669 ?_
  refine g_arg (pc := 670) C X (j := 1) rfl (by omega) hL dL_law_670 ?_
  refine g_callVi (pc := 671) (k := 49) (As := [.int (xs (6 * Q + 1))]) (rest := [.int r]) C dL_law_671 (fun l => c_X5_broke l y 49 (xs (6 * Q + 1)) σ1 σ2 r e2) ⟨wm_L_75, wi_X5_broke, wv_X5_broke, wn_X5, wc_X5_broke, hdL_X5_broke⟩ ⟨rfl, rfl, Nat.le_of_ble_eq_true rfl, Nat.le_of_ble_eq_true rfl⟩ (Or.inl ⟨TX5, 22, by decide, rfl⟩) rfl (Nat.le_of_ble_eq_true rfl) ?_
  exact g_icmp_eq (pc := 674) (tgt := 1517) C dL_law_674 rfl (fun _ => kk σ2 hR2) (fun h => absurd rfl h)
theorem hdL_X4_all : yX4_all.cls ≠ "java/lang/invoke/MethodHandle" ∧ yX4_all.cls ≠ "java/lang/invoke/VarHandle" ∧ (parseMethodDescriptor yX4_all.desc).map (fun d => d.parameters.length) = some 0 := ⟨by decide, by decide, by decide +kernel⟩
theorem hdL_X5_all : yX5_all.cls ≠ "java/lang/invoke/MethodHandle" ∧ yX5_all.cls ≠ "java/lang/invoke/VarHandle" ∧ (parseMethodDescriptor yX5_all.desc).map (fun d => d.parameters.length) = some 0 := ⟨by decide, by decide, by decide +kernel⟩
theorem lc_15 (C : Cx x y A RL cL_law 4 room_1) (X : SX x A b L xs) (hQ : 6 * Q + 6 ≤ L) (hL : L ≤ 3072) (hR : Rel Q σ) (kk : ∀ σ2, Rel (Q + 1) σ2 → GW x y A 4 Z 1517 (LV y b Q) [] σ2) : GW x y A 4 Z 679 (LV y b Q) [] σ := by
  obtain ⟨r, σ1, σ2, e1, e2, hR2⟩ := op_all  Q σ (by omega) hR
  refine g_aload_n (pc := 679) C dL_law_679 rfl 2 rfl ?_
  refine g_callVi (pc := 680) (k := 0) (As := []) (rest := []) C dL_law_680 (fun l => c_X4_all l y 0  σ σ1 r e1) ⟨wm_L_76, wi_X4_all, wv_X4_all, wn_X4, wc_X4_all, hdL_X4_all⟩ ⟨rfl, rfl, Nat.le_of_ble_eq_true rfl, Nat.le_of_ble_eq_true rfl⟩ (Or.inl ⟨TX4, 7, by decide, rfl⟩) rfl (Nat.le_of_ble_eq_true rfl) ?_
  refine g_aload_n (pc := 683) C dL_law_683 rfl 1 rfl ?_
  refine g_callVi (pc := 684) (k := 49) (As := []) (rest := [.int r]) C dL_law_684 (fun l => c_X5_all l y 49  σ1 σ2 r e2) ⟨wm_L_80, wi_X5_all, wv_X5_all, wn_X5, wc_X5_all, hdL_X5_all⟩ ⟨rfl, rfl, Nat.le_of_ble_eq_true rfl, Nat.le_of_ble_eq_true rfl⟩ (Or.inl ⟨TX5, 22, by decide, rfl⟩) rfl (Nat.le_of_ble_eq_true rfl) ?_
  exact g_icmp_eq (pc := 687) (tgt := 1517) C dL_law_687 rfl (fun _ => kk σ2 hR2) (fun h => absurd rfl h)
theorem hdL_X4_stoolFor : yX4_stoolFor.cls ≠ "java/lang/invoke/MethodHandle" ∧ yX4_stoolFor.cls ≠ "java/lang/invoke/VarHandle" ∧ (parseMethodDescriptor yX4_stoolFor.desc).map (fun d => d.parameters.length) = some 1 := ⟨by decide, by decide, by decide +kernel⟩
theorem hdL_X5_stoolFor : yX5_stoolFor.cls ≠ "java/lang/invoke/MethodHandle" ∧ yX5_stoolFor.cls ≠ "java/lang/invoke/VarHandle" ∧ (parseMethodDescriptor yX5_stoolFor.desc).map (fun d => d.parameters.length) = some 1 := ⟨by decide, by decide, by decide +kernel⟩
theorem lc_16 (C : Cx x y A RL cL_law 4 room_1) (X : SX x A b L xs) (hQ : 6 * Q + 6 ≤ L) (hL : L ≤ 3072) (hR : Rel Q σ) (kk : ∀ σ2, Rel (Q + 1) σ2 → GW x y A 4 Z 1517 (LV y b Q) [] σ2) : GW x y A 4 Z 692 (LV y b Q) [] σ := by
  obtain ⟨r, σ1, σ2, e1, e2, hR2⟩ := op_stoolFor (xs (6 * Q + 1)) Q σ (by omega) hR
  refine g_aload_n (pc := 692) C dL_law_692 rfl 2 rfl ?_
  refine g_aload_n (pc := 693) C dL_law_693 rfl 3 rfl ?_
  refine g_iload_n (pc := 694) C dL_law_694 rfl 0 rfl ?_
  refine g_iconst (v := 1) (pc := 695) C dL_law_695 (by decide) ?_
  refine g_iadd (pc := 696) C dL_law_696 ?_
  refine g_arg (pc := 697) C X (j := 1) rfl (by omega) hL dL_law_697 ?_
  refine g_callVi (pc := 698) (k := 0) (As := [.int (xs (6 * Q + 1))]) (rest := []) C dL_law_698 (fun l => c_X4_stoolFor l y 0 (xs (6 * Q + 1)) σ σ1 r e1) ⟨wm_L_81, wi_X4_stoolFor, wv_X4_stoolFor, wn_X4, wc_X4_stoolFor, hdL_X4_stoolFor⟩ ⟨rfl, rfl, Nat.le_of_ble_eq_true rfl, Nat.le_of_ble_eq_true rfl⟩ (Or.inl ⟨TX4, 7, by decide, rfl⟩) rfl (Nat.le_of_ble_eq_true rfl) ?_
  refine g_aload_n (pc := 701) C dL_law_701 rfl 1 rfl ?_
  refine g_aload_n (pc := 702) C dL_law_702 rfl 3 rfl ?_
  refine g_iload_n (pc := 703) C dL_law_703 rfl 0 rfl ?_
  refine g_iconst (v := 1) (pc := 704) C dL_law_704 (by decide) ?_
  refine g_iadd (pc := 705) C dL_law_705 ?_
  refine g_arg (pc := 706) C X (j := 1) rfl (by omega) hL dL_law_706 ?_
  refine g_callVi (pc := 707) (k := 49) (As := [.int (xs (6 * Q + 1))]) (rest := [.int r]) C dL_law_707 (fun l => c_X5_stoolFor l y 49 (xs (6 * Q + 1)) σ1 σ2 r e2) ⟨wm_L_84, wi_X5_stoolFor, wv_X5_stoolFor, wn_X5, wc_X5_stoolFor, hdL_X5_stoolFor⟩ ⟨rfl, rfl, Nat.le_of_ble_eq_true rfl, Nat.le_of_ble_eq_true rfl⟩ (Or.inl ⟨TX5, 22, by decide, rfl⟩) rfl (Nat.le_of_ble_eq_true rfl) ?_
  exact g_icmp_eq (pc := 710) (tgt := 1517) C dL_law_710 rfl (fun _ => kk σ2 hR2) (fun h => absurd rfl h)
theorem hdL_X4_lightFor : yX4_lightFor.cls ≠ "java/lang/invoke/MethodHandle" ∧ yX4_lightFor.cls ≠ "java/lang/invoke/VarHandle" ∧ (parseMethodDescriptor yX4_lightFor.desc).map (fun d => d.parameters.length) = some 2 := ⟨by decide, by decide, by decide +kernel⟩
theorem hdL_X5_lightFor : yX5_lightFor.cls ≠ "java/lang/invoke/MethodHandle" ∧ yX5_lightFor.cls ≠ "java/lang/invoke/VarHandle" ∧ (parseMethodDescriptor yX5_lightFor.desc).map (fun d => d.parameters.length) = some 2 := ⟨by decide, by decide, by decide +kernel⟩
theorem lc_17 (C : Cx x y A RL cL_law 4 room_1) (X : SX x A b L xs) (hQ : 6 * Q + 6 ≤ L) (hL : L ≤ 3072) (hR : Rel Q σ) (kk : ∀ σ2, Rel (Q + 1) σ2 → GW x y A 4 Z 1517 (LV y b Q) [] σ2) : GW x y A 4 Z 715 (LV y b Q) [] σ := by
  obtain ⟨r, σ1, σ2, e1, e2, hR2⟩ := op_lightFor (xs (6 * Q + 1)) (xs (6 * Q + 2)) Q σ (by omega) hR
  refine g_aload_n (pc := 715) C dL_law_715 rfl 2 rfl ?_
  refine g_aload_n (pc := 716) C dL_law_716 rfl 3 rfl ?_
  refine g_iload_n (pc := 717) C dL_law_717 rfl 0 rfl ?_
  refine g_iconst (v := 1) (pc := 718) C dL_law_718 (by decide) ?_
  refine g_iadd (pc := 719) C dL_law_719 ?_
  refine g_arg (pc := 720) C X (j := 1) rfl (by omega) hL dL_law_720 ?_
  refine g_aload_n (pc := 721) C dL_law_721 rfl 3 rfl ?_
  refine g_iload_n (pc := 722) C dL_law_722 rfl 0 rfl ?_
  refine g_iconst (v := 2) (pc := 723) C dL_law_723 (by decide) ?_
  refine g_iadd (pc := 724) C dL_law_724 ?_
  refine g_arg (pc := 725) C X (j := 2) rfl (by omega) hL dL_law_725 ?_
  refine g_callVi (pc := 726) (k := 0) (As := [.int (xs (6 * Q + 1)), .int (xs (6 * Q + 2))]) (rest := []) C dL_law_726 (fun l => c_X4_lightFor l y 0 (xs (6 * Q + 1)) (xs (6 * Q + 2)) σ σ1 r e1) ⟨wm_L_85, wi_X4_lightFor, wv_X4_lightFor, wn_X4, wc_X4_lightFor, hdL_X4_lightFor⟩ ⟨rfl, rfl, Nat.le_of_ble_eq_true rfl, Nat.le_of_ble_eq_true rfl⟩ (Or.inl ⟨TX4, 7, by decide, rfl⟩) rfl (Nat.le_of_ble_eq_true rfl) ?_
  refine g_aload_n (pc := 729) C dL_law_729 rfl 1 rfl ?_
  refine g_aload_n (pc := 730) C dL_law_730 rfl 3 rfl ?_
  refine g_iload_n (pc := 731) C dL_law_731 rfl 0 rfl ?_
  refine g_iconst (v := 1) (pc := 732) C dL_law_732 (by decide) ?_
  refine g_iadd (pc := 733) C dL_law_733 ?_
  refine g_arg (pc := 734) C X (j := 1) rfl (by omega) hL dL_law_734 ?_
  refine g_aload_n (pc := 735) C dL_law_735 rfl 3 rfl ?_
  refine g_iload_n (pc := 736) C dL_law_736 rfl 0 rfl ?_
  refine g_iconst (v := 2) (pc := 737) C dL_law_737 (by decide) ?_
  refine g_iadd (pc := 738) C dL_law_738 ?_
  refine g_arg (pc := 739) C X (j := 2) rfl (by omega) hL dL_law_739 ?_
  refine g_callVi (pc := 740) (k := 49) (As := [.int (xs (6 * Q + 1)), .int (xs (6 * Q + 2))]) (rest := [.int r]) C dL_law_740 (fun l => c_X5_lightFor l y 49 (xs (6 * Q + 1)) (xs (6 * Q + 2)) σ1 σ2 r e2) ⟨wm_L_88, wi_X5_lightFor, wv_X5_lightFor, wn_X5, wc_X5_lightFor, hdL_X5_lightFor⟩ ⟨rfl, rfl, Nat.le_of_ble_eq_true rfl, Nat.le_of_ble_eq_true rfl⟩ (Or.inl ⟨TX5, 22, by decide, rfl⟩) rfl (Nat.le_of_ble_eq_true rfl) ?_
  exact g_icmp_eq (pc := 743) (tgt := 1517) C dL_law_743 rfl (fun _ => kk σ2 hR2) (fun h => absurd rfl h)
theorem hdL_X4_turnFor : yX4_turnFor.cls ≠ "java/lang/invoke/MethodHandle" ∧ yX4_turnFor.cls ≠ "java/lang/invoke/VarHandle" ∧ (parseMethodDescriptor yX4_turnFor.desc).map (fun d => d.parameters.length) = some 2 := ⟨by decide, by decide, by decide +kernel⟩
theorem hdL_X5_turnFor : yX5_turnFor.cls ≠ "java/lang/invoke/MethodHandle" ∧ yX5_turnFor.cls ≠ "java/lang/invoke/VarHandle" ∧ (parseMethodDescriptor yX5_turnFor.desc).map (fun d => d.parameters.length) = some 2 := ⟨by decide, by decide, by decide +kernel⟩
theorem lc_18 (C : Cx x y A RL cL_law 4 room_1) (X : SX x A b L xs) (hQ : 6 * Q + 6 ≤ L) (hL : L ≤ 3072) (hR : Rel Q σ) (kk : ∀ σ2, Rel (Q + 1) σ2 → GW x y A 4 Z 1517 (LV y b Q) [] σ2) : GW x y A 4 Z 748 (LV y b Q) [] σ := by
  obtain ⟨r, σ1, σ2, e1, e2, hR2⟩ := op_turnFor (xs (6 * Q + 1)) (xs (6 * Q + 2)) Q σ (by omega) hR
  refine g_aload_n (pc := 748) C dL_law_748 rfl 2 rfl ?_
  refine g_aload_n (pc := 749) C dL_law_749 rfl 3 rfl ?_
  refine g_iload_n (pc := 750) C dL_law_750 rfl 0 rfl ?_
  refine g_iconst (v := 1) (pc := 751) C dL_law_751 (by decide) ?_
  refine g_iadd (pc := 752) C dL_law_752 ?_
  refine g_arg (pc := 753) C X (j := 1) rfl (by omega) hL dL_law_753 ?_
  refine g_aload_n (pc := 754) C dL_law_754 rfl 3 rfl ?_
  refine g_iload_n (pc := 755) C dL_law_755 rfl 0 rfl ?_
  refine g_iconst (v := 2) (pc := 756) C dL_law_756 (by decide) ?_
  refine g_iadd (pc := 757) C dL_law_757 ?_
  refine g_arg (pc := 758) C X (j := 2) rfl (by omega) hL dL_law_758 ?_
  refine g_callVi (pc := 759) (k := 0) (As := [.int (xs (6 * Q + 1)), .int (xs (6 * Q + 2))]) (rest := []) C dL_law_759 (fun l => c_X4_turnFor l y 0 (xs (6 * Q + 1)) (xs (6 * Q + 2)) σ σ1 r e1) ⟨wm_L_89, wi_X4_turnFor, wv_X4_turnFor, wn_X4, wc_X4_turnFor, hdL_X4_turnFor⟩ ⟨rfl, rfl, Nat.le_of_ble_eq_true rfl, Nat.le_of_ble_eq_true rfl⟩ (Or.inl ⟨TX4, 7, by decide, rfl⟩) rfl (Nat.le_of_ble_eq_true rfl) ?_
  refine g_aload_n (pc := 762) C dL_law_762 rfl 1 rfl ?_
  refine g_aload_n (pc := 763) C dL_law_763 rfl 3 rfl ?_
  refine g_iload_n (pc := 764) C dL_law_764 rfl 0 rfl ?_
  refine g_iconst (v := 1) (pc := 765) C dL_law_765 (by decide) ?_
  refine g_iadd (pc := 766) C dL_law_766 ?_
  refine g_arg (pc := 767) C X (j := 1) rfl (by omega) hL dL_law_767 ?_
  refine g_aload_n (pc := 768) C dL_law_768 rfl 3 rfl ?_
  refine g_iload_n (pc := 769) C dL_law_769 rfl 0 rfl ?_
  refine g_iconst (v := 2) (pc := 770) C dL_law_770 (by decide) ?_
  refine g_iadd (pc := 771) C dL_law_771 ?_
  refine g_arg (pc := 772) C X (j := 2) rfl (by omega) hL dL_law_772 ?_
  refine g_callVi (pc := 773) (k := 49) (As := [.int (xs (6 * Q + 1)), .int (xs (6 * Q + 2))]) (rest := [.int r]) C dL_law_773 (fun l => c_X5_turnFor l y 49 (xs (6 * Q + 1)) (xs (6 * Q + 2)) σ1 σ2 r e2) ⟨wm_L_92, wi_X5_turnFor, wv_X5_turnFor, wn_X5, wc_X5_turnFor, hdL_X5_turnFor⟩ ⟨rfl, rfl, Nat.le_of_ble_eq_true rfl, Nat.le_of_ble_eq_true rfl⟩ (Or.inl ⟨TX5, 22, by decide, rfl⟩) rfl (Nat.le_of_ble_eq_true rfl) ?_
  exact g_icmp_eq (pc := 776) (tgt := 1517) C dL_law_776 rfl (fun _ => kk σ2 hR2) (fun h => absurd rfl h)
theorem hdL_X4_kindFor : yX4_kindFor.cls ≠ "java/lang/invoke/MethodHandle" ∧ yX4_kindFor.cls ≠ "java/lang/invoke/VarHandle" ∧ (parseMethodDescriptor yX4_kindFor.desc).map (fun d => d.parameters.length) = some 2 := ⟨by decide, by decide, by decide +kernel⟩
theorem hdL_X5_kindFor : yX5_kindFor.cls ≠ "java/lang/invoke/MethodHandle" ∧ yX5_kindFor.cls ≠ "java/lang/invoke/VarHandle" ∧ (parseMethodDescriptor yX5_kindFor.desc).map (fun d => d.parameters.length) = some 2 := ⟨by decide, by decide, by decide +kernel⟩
theorem lc_19 (C : Cx x y A RL cL_law 4 room_1) (X : SX x A b L xs) (hQ : 6 * Q + 6 ≤ L) (hL : L ≤ 3072) (hR : Rel Q σ) (kk : ∀ σ2, Rel (Q + 1) σ2 → GW x y A 4 Z 1517 (LV y b Q) [] σ2) : GW x y A 4 Z 781 (LV y b Q) [] σ := by
  obtain ⟨r, σ1, σ2, e1, e2, hR2⟩ := op_kindFor (xs (6 * Q + 1)) (xs (6 * Q + 2)) Q σ (by omega) hR
  refine g_aload_n (pc := 781) C dL_law_781 rfl 2 rfl ?_
  refine g_aload_n (pc := 782) C dL_law_782 rfl 3 rfl ?_
  refine g_iload_n (pc := 783) C dL_law_783 rfl 0 rfl ?_
  refine g_iconst (v := 1) (pc := 784) C dL_law_784 (by decide) ?_
  refine g_iadd (pc := 785) C dL_law_785 ?_
  refine g_arg (pc := 786) C X (j := 1) rfl (by omega) hL dL_law_786 ?_
  refine g_aload_n (pc := 787) C dL_law_787 rfl 3 rfl ?_
  refine g_iload_n (pc := 788) C dL_law_788 rfl 0 rfl ?_
  refine g_iconst (v := 2) (pc := 789) C dL_law_789 (by decide) ?_
  refine g_iadd (pc := 790) C dL_law_790 ?_
  refine g_arg (pc := 791) C X (j := 2) rfl (by omega) hL dL_law_791 ?_
  refine g_callVi (pc := 792) (k := 0) (As := [.int (xs (6 * Q + 1)), .int (xs (6 * Q + 2))]) (rest := []) C dL_law_792 (fun l => c_X4_kindFor l y 0 (xs (6 * Q + 1)) (xs (6 * Q + 2)) σ σ1 r e1) ⟨wm_L_93, wi_X4_kindFor, wv_X4_kindFor, wn_X4, wc_X4_kindFor, hdL_X4_kindFor⟩ ⟨rfl, rfl, Nat.le_of_ble_eq_true rfl, Nat.le_of_ble_eq_true rfl⟩ (Or.inl ⟨TX4, 7, by decide, rfl⟩) rfl (Nat.le_of_ble_eq_true rfl) ?_
  refine g_aload_n (pc := 795) C dL_law_795 rfl 1 rfl ?_
  refine g_aload_n (pc := 796) C dL_law_796 rfl 3 rfl ?_
  refine g_iload_n (pc := 797) C dL_law_797 rfl 0 rfl ?_
  refine g_iconst (v := 1) (pc := 798) C dL_law_798 (by decide) ?_
  refine g_iadd (pc := 799) C dL_law_799 ?_
  refine g_arg (pc := 800) C X (j := 1) rfl (by omega) hL dL_law_800 ?_
  refine g_aload_n (pc := 801) C dL_law_801 rfl 3 rfl ?_
  refine g_iload_n (pc := 802) C dL_law_802 rfl 0 rfl ?_
  refine g_iconst (v := 2) (pc := 803) C dL_law_803 (by decide) ?_
  refine g_iadd (pc := 804) C dL_law_804 ?_
  refine g_arg (pc := 805) C X (j := 2) rfl (by omega) hL dL_law_805 ?_
  refine g_callVi (pc := 806) (k := 49) (As := [.int (xs (6 * Q + 1)), .int (xs (6 * Q + 2))]) (rest := [.int r]) C dL_law_806 (fun l => c_X5_kindFor l y 49 (xs (6 * Q + 1)) (xs (6 * Q + 2)) σ1 σ2 r e2) ⟨wm_L_96, wi_X5_kindFor, wv_X5_kindFor, wn_X5, wc_X5_kindFor, hdL_X5_kindFor⟩ ⟨rfl, rfl, Nat.le_of_ble_eq_true rfl, Nat.le_of_ble_eq_true rfl⟩ (Or.inl ⟨TX5, 22, by decide, rfl⟩) rfl (Nat.le_of_ble_eq_true rfl) ?_
  exact g_icmp_eq (pc := 809) (tgt := 1517) C dL_law_809 rfl (fun _ => kk σ2 hR2) (fun h => absurd rfl h)
theorem hdL_X4_merryFor : yX4_merryFor.cls ≠ "java/lang/invoke/MethodHandle" ∧ yX4_merryFor.cls ≠ "java/lang/invoke/VarHandle" ∧ (parseMethodDescriptor yX4_merryFor.desc).map (fun d => d.parameters.length) = some 2 := ⟨by decide, by decide, by decide +kernel⟩
theorem hdL_X5_merryFor : yX5_merryFor.cls ≠ "java/lang/invoke/MethodHandle" ∧ yX5_merryFor.cls ≠ "java/lang/invoke/VarHandle" ∧ (parseMethodDescriptor yX5_merryFor.desc).map (fun d => d.parameters.length) = some 2 := ⟨by decide, by decide, by decide +kernel⟩
theorem lc_20 (C : Cx x y A RL cL_law 4 room_1) (X : SX x A b L xs) (hQ : 6 * Q + 6 ≤ L) (hL : L ≤ 3072) (hR : Rel Q σ) (kk : ∀ σ2, Rel (Q + 1) σ2 → GW x y A 4 Z 1517 (LV y b Q) [] σ2) : GW x y A 4 Z 814 (LV y b Q) [] σ := by
  obtain ⟨r, σ1, σ2, e1, e2, hR2⟩ := op_merryFor (xs (6 * Q + 1)) (xs (6 * Q + 2)) Q σ (by omega) hR
  refine g_aload_n (pc := 814) C dL_law_814 rfl 2 rfl ?_
  refine g_aload_n (pc := 815) C dL_law_815 rfl 3 rfl ?_
  refine g_iload_n (pc := 816) C dL_law_816 rfl 0 rfl ?_
  refine g_iconst (v := 1) (pc := 817) C dL_law_817 (by decide) ?_
  refine g_iadd (pc := 818) C dL_law_818 ?_
  refine g_arg (pc := 819) C X (j := 1) rfl (by omega) hL dL_law_819 ?_
  refine g_aload_n (pc := 820) C dL_law_820 rfl 3 rfl ?_
  refine g_iload_n (pc := 821) C dL_law_821 rfl 0 rfl ?_
  refine g_iconst (v := 2) (pc := 822) C dL_law_822 (by decide) ?_
  refine g_iadd (pc := 823) C dL_law_823 ?_
  refine g_arg (pc := 824) C X (j := 2) rfl (by omega) hL dL_law_824 ?_
  refine g_callVi (pc := 825) (k := 0) (As := [.int (xs (6 * Q + 1)), .int (xs (6 * Q + 2))]) (rest := []) C dL_law_825 (fun l => c_X4_merryFor l y 0 (xs (6 * Q + 1)) (xs (6 * Q + 2)) σ σ1 r e1) ⟨wm_L_97, wi_X4_merryFor, wv_X4_merryFor, wn_X4, wc_X4_merryFor, hdL_X4_merryFor⟩ ⟨rfl, rfl, Nat.le_of_ble_eq_true rfl, Nat.le_of_ble_eq_true rfl⟩ (Or.inl ⟨TX4, 7, by decide, rfl⟩) rfl (Nat.le_of_ble_eq_true rfl) ?_
  refine g_aload_n (pc := 828) C dL_law_828 rfl 1 rfl ?_
  refine g_aload_n (pc := 829) C dL_law_829 rfl 3 rfl ?_
  refine g_iload_n (pc := 830) C dL_law_830 rfl 0 rfl ?_
  refine g_iconst (v := 1) (pc := 831) C dL_law_831 (by decide) ?_
  refine g_iadd (pc := 832) C dL_law_832 ?_
  refine g_arg (pc := 833) C X (j := 1) rfl (by omega) hL dL_law_833 ?_
  refine g_aload_n (pc := 834) C dL_law_834 rfl 3 rfl ?_
  refine g_iload_n (pc := 835) C dL_law_835 rfl 0 rfl ?_
  refine g_iconst (v := 2) (pc := 836) C dL_law_836 (by decide) ?_
  refine g_iadd (pc := 837) C dL_law_837 ?_
  refine g_arg (pc := 838) C X (j := 2) rfl (by omega) hL dL_law_838 ?_
  refine g_callVi (pc := 839) (k := 49) (As := [.int (xs (6 * Q + 1)), .int (xs (6 * Q + 2))]) (rest := [.int r]) C dL_law_839 (fun l => c_X5_merryFor l y 49 (xs (6 * Q + 1)) (xs (6 * Q + 2)) σ1 σ2 r e2) ⟨wm_L_100, wi_X5_merryFor, wv_X5_merryFor, wn_X5, wc_X5_merryFor, hdL_X5_merryFor⟩ ⟨rfl, rfl, Nat.le_of_ble_eq_true rfl, Nat.le_of_ble_eq_true rfl⟩ (Or.inl ⟨TX5, 22, by decide, rfl⟩) rfl (Nat.le_of_ble_eq_true rfl) ?_
  exact g_icmp_eq (pc := 842) (tgt := 1517) C dL_law_842 rfl (fun _ => kk σ2 hR2) (fun h => absurd rfl h)
theorem hdL_X4_priceFor : yX4_priceFor.cls ≠ "java/lang/invoke/MethodHandle" ∧ yX4_priceFor.cls ≠ "java/lang/invoke/VarHandle" ∧ (parseMethodDescriptor yX4_priceFor.desc).map (fun d => d.parameters.length) = some 1 := ⟨by decide, by decide, by decide +kernel⟩
theorem hdL_X5_priceFor : yX5_priceFor.cls ≠ "java/lang/invoke/MethodHandle" ∧ yX5_priceFor.cls ≠ "java/lang/invoke/VarHandle" ∧ (parseMethodDescriptor yX5_priceFor.desc).map (fun d => d.parameters.length) = some 1 := ⟨by decide, by decide, by decide +kernel⟩
theorem lc_21 (C : Cx x y A RL cL_law 4 room_1) (X : SX x A b L xs) (hQ : 6 * Q + 6 ≤ L) (hL : L ≤ 3072) (hR : Rel Q σ) (kk : ∀ σ2, Rel (Q + 1) σ2 → GW x y A 4 Z 1517 (LV y b Q) [] σ2) : GW x y A 4 Z 847 (LV y b Q) [] σ := by
  obtain ⟨r, σ1, σ2, e1, e2, hR2⟩ := op_priceFor (xs (6 * Q + 1)) Q σ (by omega) hR
  refine g_aload_n (pc := 847) C dL_law_847 rfl 2 rfl ?_
  refine g_aload_n (pc := 848) C dL_law_848 rfl 3 rfl ?_
  refine g_iload_n (pc := 849) C dL_law_849 rfl 0 rfl ?_
  refine g_iconst (v := 1) (pc := 850) C dL_law_850 (by decide) ?_
  refine g_iadd (pc := 851) C dL_law_851 ?_
  refine g_arg (pc := 852) C X (j := 1) rfl (by omega) hL dL_law_852 ?_
  refine g_callVi (pc := 853) (k := 0) (As := [.int (xs (6 * Q + 1))]) (rest := []) C dL_law_853 (fun l => c_X4_priceFor l y 0 (xs (6 * Q + 1)) σ σ1 r e1) ⟨wm_L_101, wi_X4_priceFor, wv_X4_priceFor, wn_X4, wc_X4_priceFor, hdL_X4_priceFor⟩ ⟨rfl, rfl, Nat.le_of_ble_eq_true rfl, Nat.le_of_ble_eq_true rfl⟩ (Or.inl ⟨TX4, 7, by decide, rfl⟩) rfl (Nat.le_of_ble_eq_true rfl) ?_
  refine g_aload_n (pc := 856) C dL_law_856 rfl 1 rfl ?_
  refine g_aload_n (pc := 857) C dL_law_857 rfl 3 rfl ?_
  refine g_iload_n (pc := 858) C dL_law_858 rfl 0 rfl ?_
  refine g_iconst (v := 1) (pc := 859) C dL_law_859 (by decide) ?_
  refine g_iadd (pc := 860) C dL_law_860 ?_
  refine g_arg (pc := 861) C X (j := 1) rfl (by omega) hL dL_law_861 ?_
  refine g_callVi (pc := 862) (k := 49) (As := [.int (xs (6 * Q + 1))]) (rest := [.int r]) C dL_law_862 (fun l => c_X5_priceFor l y 49 (xs (6 * Q + 1)) σ1 σ2 r e2) ⟨wm_L_104, wi_X5_priceFor, wv_X5_priceFor, wn_X5, wc_X5_priceFor, hdL_X5_priceFor⟩ ⟨rfl, rfl, Nat.le_of_ble_eq_true rfl, Nat.le_of_ble_eq_true rfl⟩ (Or.inl ⟨TX5, 22, by decide, rfl⟩) rfl (Nat.le_of_ble_eq_true rfl) ?_
  exact g_icmp_eq (pc := 865) (tgt := 1517) C dL_law_865 rfl (fun _ => kk σ2 hR2) (fun h => absurd rfl h)
theorem hdL_X4_away : yX4_away.cls ≠ "java/lang/invoke/MethodHandle" ∧ yX4_away.cls ≠ "java/lang/invoke/VarHandle" ∧ (parseMethodDescriptor yX4_away.desc).map (fun d => d.parameters.length) = some 3 := ⟨by decide, by decide, by decide +kernel⟩
theorem hdL_X5_away : yX5_away.cls ≠ "java/lang/invoke/MethodHandle" ∧ yX5_away.cls ≠ "java/lang/invoke/VarHandle" ∧ (parseMethodDescriptor yX5_away.desc).map (fun d => d.parameters.length) = some 3 := ⟨by decide, by decide, by decide +kernel⟩
theorem lc_22 (C : Cx x y A RL cL_law 4 room_1) (X : SX x A b L xs) (hQ : 6 * Q + 6 ≤ L) (hL : L ≤ 3072) (hR : Rel Q σ) (kk : ∀ σ2, Rel (Q + 1) σ2 → GW x y A 4 Z 1517 (LV y b Q) [] σ2) : GW x y A 4 Z 870 (LV y b Q) [] σ := by
  obtain ⟨r, σ1, σ2, e1, e2, hR2⟩ := op_away (xs (6 * Q + 1)) (xs (6 * Q + 2)) (xs (6 * Q + 3)) Q σ (by omega) hR
  refine g_aload_n (pc := 870) C dL_law_870 rfl 2 rfl ?_
  refine g_aload_n (pc := 871) C dL_law_871 rfl 3 rfl ?_
  refine g_iload_n (pc := 872) C dL_law_872 rfl 0 rfl ?_
  refine g_iconst (v := 1) (pc := 873) C dL_law_873 (by decide) ?_
  refine g_iadd (pc := 874) C dL_law_874 ?_
  refine g_arg (pc := 875) C X (j := 1) rfl (by omega) hL dL_law_875 ?_
  refine g_aload_n (pc := 876) C dL_law_876 rfl 3 rfl ?_
  refine g_iload_n (pc := 877) C dL_law_877 rfl 0 rfl ?_
  refine g_iconst (v := 2) (pc := 878) C dL_law_878 (by decide) ?_
  refine g_iadd (pc := 879) C dL_law_879 ?_
  refine g_arg (pc := 880) C X (j := 2) rfl (by omega) hL dL_law_880 ?_
  refine g_aload_n (pc := 881) C dL_law_881 rfl 3 rfl ?_
  refine g_iload_n (pc := 882) C dL_law_882 rfl 0 rfl ?_
  refine g_iconst (v := 3) (pc := 883) C dL_law_883 (by decide) ?_
  refine g_iadd (pc := 884) C dL_law_884 ?_
  refine g_arg (pc := 885) C X (j := 3) rfl (by omega) hL dL_law_885 ?_
  refine g_callVi (pc := 886) (k := 0) (As := [.int (xs (6 * Q + 1)), .int (xs (6 * Q + 2)), .int (xs (6 * Q + 3))]) (rest := []) C dL_law_886 (fun l => c_X4_away l y 0 (xs (6 * Q + 1)) (xs (6 * Q + 2)) (xs (6 * Q + 3)) σ σ1 r e1) ⟨wm_L_105, wi_X4_away, wv_X4_away, wn_X4, wc_X4_away, hdL_X4_away⟩ ⟨rfl, rfl, Nat.le_of_ble_eq_true rfl, Nat.le_of_ble_eq_true rfl⟩ (Or.inl ⟨TX4, 7, by decide, rfl⟩) rfl (Nat.le_of_ble_eq_true rfl) ?_
  refine g_aload_n (pc := 889) C dL_law_889 rfl 1 rfl ?_
  refine g_aload_n (pc := 890) C dL_law_890 rfl 3 rfl ?_
  refine g_iload_n (pc := 891) C dL_law_891 rfl 0 rfl ?_
  refine g_iconst (v := 1) (pc := 892) C dL_law_892 (by decide) ?_
  refine g_iadd (pc := 893) C dL_law_893 ?_
  refine g_arg (pc := 894) C X (j := 1) rfl (by omega) hL dL_law_894 ?_
  refine g_aload_n (pc := 895) C dL_law_895 rfl 3 rfl ?_
  refine g_iload_n (pc := 896) C dL_law_896 rfl 0 rfl ?_
  refine g_iconst (v := 2) (pc := 897) C dL_law_897 (by decide) ?_
  refine g_iadd (pc := 898) C dL_law_898 ?_
  refine g_arg (pc := 899) C X (j := 2) rfl (by omega) hL dL_law_899 ?_
  refine g_aload_n (pc := 900) C dL_law_900 rfl 3 rfl ?_
  refine g_iload_n (pc := 901) C dL_law_901 rfl 0 rfl ?_
  refine g_iconst (v := 3) (pc := 902) C dL_law_902 (by decide) ?_
  refine g_iadd (pc := 903) C dL_law_903 ?_
  refine g_arg (pc := 904) C X (j := 3) rfl (by omega) hL dL_law_904 ?_
  refine g_callVi (pc := 905) (k := 49) (As := [.int (xs (6 * Q + 1)), .int (xs (6 * Q + 2)), .int (xs (6 * Q + 3))]) (rest := [.int r]) C dL_law_905 (fun l => c_X5_away l y 49 (xs (6 * Q + 1)) (xs (6 * Q + 2)) (xs (6 * Q + 3)) σ1 σ2 r e2) ⟨wm_L_108, wi_X5_away, wv_X5_away, wn_X5, wc_X5_away, hdL_X5_away⟩ ⟨rfl, rfl, Nat.le_of_ble_eq_true rfl, Nat.le_of_ble_eq_true rfl⟩ (Or.inl ⟨TX5, 22, by decide, rfl⟩) rfl (Nat.le_of_ble_eq_true rfl) ?_
  exact g_icmp_eq (pc := 908) (tgt := 1517) C dL_law_908 rfl (fun _ => kk σ2 hR2) (fun h => absurd rfl h)
theorem hdL_X4_fits : yX4_fits.cls ≠ "java/lang/invoke/MethodHandle" ∧ yX4_fits.cls ≠ "java/lang/invoke/VarHandle" ∧ (parseMethodDescriptor yX4_fits.desc).map (fun d => d.parameters.length) = some 2 := ⟨by decide, by decide, by decide +kernel⟩
theorem hdL_X5_fits : yX5_fits.cls ≠ "java/lang/invoke/MethodHandle" ∧ yX5_fits.cls ≠ "java/lang/invoke/VarHandle" ∧ (parseMethodDescriptor yX5_fits.desc).map (fun d => d.parameters.length) = some 2 := ⟨by decide, by decide, by decide +kernel⟩
theorem lc_23 (C : Cx x y A RL cL_law 4 room_1) (X : SX x A b L xs) (hQ : 6 * Q + 6 ≤ L) (hL : L ≤ 3072) (hR : Rel Q σ) (kk : ∀ σ2, Rel (Q + 1) σ2 → GW x y A 4 Z 1517 (LV y b Q) [] σ2) : GW x y A 4 Z 913 (LV y b Q) [] σ := by
  obtain ⟨r, σ1, σ2, e1, e2, hR2⟩ := op_fits (xs (6 * Q + 1)) (xs (6 * Q + 2)) Q σ (by omega) hR
  refine g_aload_n (pc := 913) C dL_law_913 rfl 2 rfl ?_
  refine g_aload_n (pc := 914) C dL_law_914 rfl 3 rfl ?_
  refine g_iload_n (pc := 915) C dL_law_915 rfl 0 rfl ?_
  refine g_iconst (v := 1) (pc := 916) C dL_law_916 (by decide) ?_
  refine g_iadd (pc := 917) C dL_law_917 ?_
  refine g_arg (pc := 918) C X (j := 1) rfl (by omega) hL dL_law_918 ?_
  refine g_aload_n (pc := 919) C dL_law_919 rfl 3 rfl ?_
  refine g_iload_n (pc := 920) C dL_law_920 rfl 0 rfl ?_
  refine g_iconst (v := 2) (pc := 921) C dL_law_921 (by decide) ?_
  refine g_iadd (pc := 922) C dL_law_922 ?_
  refine g_arg (pc := 923) C X (j := 2) rfl (by omega) hL dL_law_923 ?_
  refine g_callVi (pc := 924) (k := 0) (As := [.int (xs (6 * Q + 1)), .int (xs (6 * Q + 2))]) (rest := []) C dL_law_924 (fun l => c_X4_fits l y 0 (xs (6 * Q + 1)) (xs (6 * Q + 2)) σ σ1 r e1) ⟨wm_L_109, wi_X4_fits, wv_X4_fits, wn_X4, wc_X4_fits, hdL_X4_fits⟩ ⟨rfl, rfl, Nat.le_of_ble_eq_true rfl, Nat.le_of_ble_eq_true rfl⟩ (Or.inl ⟨TX4, 7, by decide, rfl⟩) rfl (Nat.le_of_ble_eq_true rfl) ?_
  refine g_aload_n (pc := 927) C dL_law_927 rfl 1 rfl ?_
  refine g_aload_n (pc := 928) C dL_law_928 rfl 3 rfl ?_
  refine g_iload_n (pc := 929) C dL_law_929 rfl 0 rfl ?_
  refine g_iconst (v := 1) (pc := 930) C dL_law_930 (by decide) ?_
  refine g_iadd (pc := 931) C dL_law_931 ?_
  refine g_arg (pc := 932) C X (j := 1) rfl (by omega) hL dL_law_932 ?_
  refine g_aload_n (pc := 933) C dL_law_933 rfl 3 rfl ?_
  refine g_iload_n (pc := 934) C dL_law_934 rfl 0 rfl ?_
  refine g_iconst (v := 2) (pc := 935) C dL_law_935 (by decide) ?_
  refine g_iadd (pc := 936) C dL_law_936 ?_
  refine g_arg (pc := 937) C X (j := 2) rfl (by omega) hL dL_law_937 ?_
  refine g_callVi (pc := 938) (k := 49) (As := [.int (xs (6 * Q + 1)), .int (xs (6 * Q + 2))]) (rest := [.int r]) C dL_law_938 (fun l => c_X5_fits l y 49 (xs (6 * Q + 1)) (xs (6 * Q + 2)) σ1 σ2 r e2) ⟨wm_L_112, wi_X5_fits, wv_X5_fits, wn_X5, wc_X5_fits, hdL_X5_fits⟩ ⟨rfl, rfl, Nat.le_of_ble_eq_true rfl, Nat.le_of_ble_eq_true rfl⟩ (Or.inl ⟨TX5, 22, by decide, rfl⟩) rfl (Nat.le_of_ble_eq_true rfl) ?_
  exact g_icmp_eq (pc := 941) (tgt := 1517) C dL_law_941 rfl (fun _ => kk σ2 hR2) (fun h => absurd rfl h)
theorem hdL_X4_tall : yX4_tall.cls ≠ "java/lang/invoke/MethodHandle" ∧ yX4_tall.cls ≠ "java/lang/invoke/VarHandle" ∧ (parseMethodDescriptor yX4_tall.desc).map (fun d => d.parameters.length) = some 2 := ⟨by decide, by decide, by decide +kernel⟩
theorem hdL_X5_tall : yX5_tall.cls ≠ "java/lang/invoke/MethodHandle" ∧ yX5_tall.cls ≠ "java/lang/invoke/VarHandle" ∧ (parseMethodDescriptor yX5_tall.desc).map (fun d => d.parameters.length) = some 2 := ⟨by decide, by decide, by decide +kernel⟩
theorem lc_24 (C : Cx x y A RL cL_law 4 room_1) (X : SX x A b L xs) (hQ : 6 * Q + 6 ≤ L) (hL : L ≤ 3072) (hR : Rel Q σ) (kk : ∀ σ2, Rel (Q + 1) σ2 → GW x y A 4 Z 1517 (LV y b Q) [] σ2) : GW x y A 4 Z 946 (LV y b Q) [] σ := by
  obtain ⟨r, σ1, σ2, e1, e2, hR2⟩ := op_tall (xs (6 * Q + 1)) (xs (6 * Q + 2)) Q σ (by omega) hR
  refine g_aload_n (pc := 946) C dL_law_946 rfl 2 rfl ?_
  refine g_aload_n (pc := 947) C dL_law_947 rfl 3 rfl ?_
  refine g_iload_n (pc := 948) C dL_law_948 rfl 0 rfl ?_
  refine g_iconst (v := 1) (pc := 949) C dL_law_949 (by decide) ?_
  refine g_iadd (pc := 950) C dL_law_950 ?_
  refine g_arg (pc := 951) C X (j := 1) rfl (by omega) hL dL_law_951 ?_
  refine g_aload_n (pc := 952) C dL_law_952 rfl 3 rfl ?_
  refine g_iload_n (pc := 953) C dL_law_953 rfl 0 rfl ?_
  refine g_iconst (v := 2) (pc := 954) C dL_law_954 (by decide) ?_
  refine g_iadd (pc := 955) C dL_law_955 ?_
  refine g_arg (pc := 956) C X (j := 2) rfl (by omega) hL dL_law_956 ?_
  refine g_callVi (pc := 957) (k := 0) (As := [.int (xs (6 * Q + 1)), .int (xs (6 * Q + 2))]) (rest := []) C dL_law_957 (fun l => c_X4_tall l y 0 (xs (6 * Q + 1)) (xs (6 * Q + 2)) σ σ1 r e1) ⟨wm_L_113, wi_X4_tall, wv_X4_tall, wn_X4, wc_X4_tall, hdL_X4_tall⟩ ⟨rfl, rfl, Nat.le_of_ble_eq_true rfl, Nat.le_of_ble_eq_true rfl⟩ (Or.inl ⟨TX4, 7, by decide, rfl⟩) rfl (Nat.le_of_ble_eq_true rfl) ?_
  refine g_aload_n (pc := 960) C dL_law_960 rfl 1 rfl ?_
  refine g_aload_n (pc := 961) C dL_law_961 rfl 3 rfl ?_
  refine g_iload_n (pc := 962) C dL_law_962 rfl 0 rfl ?_
  refine g_iconst (v := 1) (pc := 963) C dL_law_963 (by decide) ?_
  refine g_iadd (pc := 964) C dL_law_964 ?_
  refine g_arg (pc := 965) C X (j := 1) rfl (by omega) hL dL_law_965 ?_
  refine g_aload_n (pc := 966) C dL_law_966 rfl 3 rfl ?_
  refine g_iload_n (pc := 967) C dL_law_967 rfl 0 rfl ?_
  refine g_iconst (v := 2) (pc := 968) C dL_law_968 (by decide) ?_
  refine g_iadd (pc := 969) C dL_law_969 ?_
  refine g_arg (pc := 970) C X (j := 2) rfl (by omega) hL dL_law_970 ?_
  refine g_callVi (pc := 971) (k := 49) (As := [.int (xs (6 * Q + 1)), .int (xs (6 * Q + 2))]) (rest := [.int r]) C dL_law_971 (fun l => c_X5_tall l y 49 (xs (6 * Q + 1)) (xs (6 * Q + 2)) σ1 σ2 r e2) ⟨wm_L_116, wi_X5_tall, wv_X5_tall, wn_X5, wc_X5_tall, hdL_X5_tall⟩ ⟨rfl, rfl, Nat.le_of_ble_eq_true rfl, Nat.le_of_ble_eq_true rfl⟩ (Or.inl ⟨TX5, 22, by decide, rfl⟩) rfl (Nat.le_of_ble_eq_true rfl) ?_
  exact g_icmp_eq (pc := 974) (tgt := 1517) C dL_law_974 rfl (fun _ => kk σ2 hR2) (fun h => absurd rfl h)
theorem hdL_X4_kinds : yX4_kinds.cls ≠ "java/lang/invoke/MethodHandle" ∧ yX4_kinds.cls ≠ "java/lang/invoke/VarHandle" ∧ (parseMethodDescriptor yX4_kinds.desc).map (fun d => d.parameters.length) = some 2 := ⟨by decide, by decide, by decide +kernel⟩
theorem hdL_X5_kinds : yX5_kinds.cls ≠ "java/lang/invoke/MethodHandle" ∧ yX5_kinds.cls ≠ "java/lang/invoke/VarHandle" ∧ (parseMethodDescriptor yX5_kinds.desc).map (fun d => d.parameters.length) = some 2 := ⟨by decide, by decide, by decide +kernel⟩
theorem lc_25 (C : Cx x y A RL cL_law 4 room_1) (X : SX x A b L xs) (hQ : 6 * Q + 6 ≤ L) (hL : L ≤ 3072) (hR : Rel Q σ) (kk : ∀ σ2, Rel (Q + 1) σ2 → GW x y A 4 Z 1517 (LV y b Q) [] σ2) : GW x y A 4 Z 979 (LV y b Q) [] σ := by
  obtain ⟨r, σ1, σ2, e1, e2, hR2⟩ := op_kinds (xs (6 * Q + 1)) (xs (6 * Q + 2)) Q σ (by omega) hR
  refine g_aload_n (pc := 979) C dL_law_979 rfl 2 rfl ?_
  refine g_aload_n (pc := 980) C dL_law_980 rfl 3 rfl ?_
  refine g_iload_n (pc := 981) C dL_law_981 rfl 0 rfl ?_
  refine g_iconst (v := 1) (pc := 982) C dL_law_982 (by decide) ?_
  refine g_iadd (pc := 983) C dL_law_983 ?_
  refine g_arg (pc := 984) C X (j := 1) rfl (by omega) hL dL_law_984 ?_
  refine g_aload_n (pc := 985) C dL_law_985 rfl 3 rfl ?_
  refine g_iload_n (pc := 986) C dL_law_986 rfl 0 rfl ?_
  refine g_iconst (v := 2) (pc := 987) C dL_law_987 (by decide) ?_
  refine g_iadd (pc := 988) C dL_law_988 ?_
  refine g_arg (pc := 989) C X (j := 2) rfl (by omega) hL dL_law_989 ?_
  refine g_callVi (pc := 990) (k := 0) (As := [.int (xs (6 * Q + 1)), .int (xs (6 * Q + 2))]) (rest := []) C dL_law_990 (fun l => c_X4_kinds l y 0 (xs (6 * Q + 1)) (xs (6 * Q + 2)) σ σ1 r e1) ⟨wm_L_117, wi_X4_kinds, wv_X4_kinds, wn_X4, wc_X4_kinds, hdL_X4_kinds⟩ ⟨rfl, rfl, Nat.le_of_ble_eq_true rfl, Nat.le_of_ble_eq_true rfl⟩ (Or.inl ⟨TX4, 7, by decide, rfl⟩) rfl (Nat.le_of_ble_eq_true rfl) ?_
  refine g_aload_n (pc := 993) C dL_law_993 rfl 1 rfl ?_
  refine g_aload_n (pc := 994) C dL_law_994 rfl 3 rfl ?_
  refine g_iload_n (pc := 995) C dL_law_995 rfl 0 rfl ?_
  refine g_iconst (v := 1) (pc := 996) C dL_law_996 (by decide) ?_
  refine g_iadd (pc := 997) C dL_law_997 ?_
  refine g_arg (pc := 998) C X (j := 1) rfl (by omega) hL dL_law_998 ?_
  refine g_aload_n (pc := 999) C dL_law_999 rfl 3 rfl ?_
  refine g_iload_n (pc := 1000) C dL_law_1000 rfl 0 rfl ?_
  refine g_iconst (v := 2) (pc := 1001) C dL_law_1001 (by decide) ?_
  refine g_iadd (pc := 1002) C dL_law_1002 ?_
  refine g_arg (pc := 1003) C X (j := 2) rfl (by omega) hL dL_law_1003 ?_
  refine g_callVi (pc := 1004) (k := 49) (As := [.int (xs (6 * Q + 1)), .int (xs (6 * Q + 2))]) (rest := [.int r]) C dL_law_1004 (fun l => c_X5_kinds l y 49 (xs (6 * Q + 1)) (xs (6 * Q + 2)) σ1 σ2 r e2) ⟨wm_L_120, wi_X5_kinds, wv_X5_kinds, wn_X5, wc_X5_kinds, hdL_X5_kinds⟩ ⟨rfl, rfl, Nat.le_of_ble_eq_true rfl, Nat.le_of_ble_eq_true rfl⟩ (Or.inl ⟨TX5, 22, by decide, rfl⟩) rfl (Nat.le_of_ble_eq_true rfl) ?_
  exact g_icmp_eq (pc := 1007) (tgt := 1517) C dL_law_1007 rfl (fun _ => kk σ2 hR2) (fun h => absurd rfl h)
theorem hdL_X4_lamps : yX4_lamps.cls ≠ "java/lang/invoke/MethodHandle" ∧ yX4_lamps.cls ≠ "java/lang/invoke/VarHandle" ∧ (parseMethodDescriptor yX4_lamps.desc).map (fun d => d.parameters.length) = some 1 := ⟨by decide, by decide, by decide +kernel⟩
theorem hdL_X5_lamps : yX5_lamps.cls ≠ "java/lang/invoke/MethodHandle" ∧ yX5_lamps.cls ≠ "java/lang/invoke/VarHandle" ∧ (parseMethodDescriptor yX5_lamps.desc).map (fun d => d.parameters.length) = some 1 := ⟨by decide, by decide, by decide +kernel⟩
theorem lc_26 (C : Cx x y A RL cL_law 4 room_1) (X : SX x A b L xs) (hQ : 6 * Q + 6 ≤ L) (hL : L ≤ 3072) (hR : Rel Q σ) (kk : ∀ σ2, Rel (Q + 1) σ2 → GW x y A 4 Z 1517 (LV y b Q) [] σ2) : GW x y A 4 Z 1012 (LV y b Q) [] σ := by
  obtain ⟨r, σ1, σ2, e1, e2, hR2⟩ := op_lamps (xs (6 * Q + 1)) Q σ (by omega) hR
  refine g_aload_n (pc := 1012) C dL_law_1012 rfl 2 rfl ?_
  refine g_aload_n (pc := 1013) C dL_law_1013 rfl 3 rfl ?_
  refine g_iload_n (pc := 1014) C dL_law_1014 rfl 0 rfl ?_
  refine g_iconst (v := 1) (pc := 1015) C dL_law_1015 (by decide) ?_
  refine g_iadd (pc := 1016) C dL_law_1016 ?_
  refine g_arg (pc := 1017) C X (j := 1) rfl (by omega) hL dL_law_1017 ?_
  refine g_callVi (pc := 1018) (k := 0) (As := [.int (xs (6 * Q + 1))]) (rest := []) C dL_law_1018 (fun l => c_X4_lamps l y 0 (xs (6 * Q + 1)) σ σ1 r e1) ⟨wm_L_121, wi_X4_lamps, wv_X4_lamps, wn_X4, wc_X4_lamps, hdL_X4_lamps⟩ ⟨rfl, rfl, Nat.le_of_ble_eq_true rfl, Nat.le_of_ble_eq_true rfl⟩ (Or.inl ⟨TX4, 7, by decide, rfl⟩) rfl (Nat.le_of_ble_eq_true rfl) ?_
  refine g_aload_n (pc := 1021) C dL_law_1021 rfl 1 rfl ?_
  refine g_aload_n (pc := 1022) C dL_law_1022 rfl 3 rfl ?_
  refine g_iload_n (pc := 1023) C dL_law_1023 rfl 0 rfl ?_
  refine g_iconst (v := 1) (pc := 1024) C dL_law_1024 (by decide) ?_
  refine g_iadd (pc := 1025) C dL_law_1025 ?_
  refine g_arg (pc := 1026) C X (j := 1) rfl (by omega) hL dL_law_1026 ?_
  refine g_callVi (pc := 1027) (k := 49) (As := [.int (xs (6 * Q + 1))]) (rest := [.int r]) C dL_law_1027 (fun l => c_X5_lamps l y 49 (xs (6 * Q + 1)) σ1 σ2 r e2) ⟨wm_L_124, wi_X5_lamps, wv_X5_lamps, wn_X5, wc_X5_lamps, hdL_X5_lamps⟩ ⟨rfl, rfl, Nat.le_of_ble_eq_true rfl, Nat.le_of_ble_eq_true rfl⟩ (Or.inl ⟨TX5, 22, by decide, rfl⟩) rfl (Nat.le_of_ble_eq_true rfl) ?_
  exact g_icmp_eq (pc := 1030) (tgt := 1517) C dL_law_1030 rfl (fun _ => kk σ2 hR2) (fun h => absurd rfl h)
theorem hdL_X4_odds : yX4_odds.cls ≠ "java/lang/invoke/MethodHandle" ∧ yX4_odds.cls ≠ "java/lang/invoke/VarHandle" ∧ (parseMethodDescriptor yX4_odds.desc).map (fun d => d.parameters.length) = some 4 := ⟨by decide, by decide, by decide +kernel⟩
theorem hdL_X5_odds : yX5_odds.cls ≠ "java/lang/invoke/MethodHandle" ∧ yX5_odds.cls ≠ "java/lang/invoke/VarHandle" ∧ (parseMethodDescriptor yX5_odds.desc).map (fun d => d.parameters.length) = some 4 := ⟨by decide, by decide, by decide +kernel⟩
theorem lc_27 (C : Cx x y A RL cL_law 4 room_1) (X : SX x A b L xs) (hQ : 6 * Q + 6 ≤ L) (hL : L ≤ 3072) (hR : Rel Q σ) (kk : ∀ σ2, Rel (Q + 1) σ2 → GW x y A 4 Z 1517 (LV y b Q) [] σ2) : GW x y A 4 Z 1035 (LV y b Q) [] σ := by
  obtain ⟨r, σ1, σ2, e1, e2, hR2⟩ := op_odds (xs (6 * Q + 1)) (xs (6 * Q + 2)) (xs (6 * Q + 3)) (xs (6 * Q + 4)) Q σ (by omega) hR
  refine g_aload_n (pc := 1035) C dL_law_1035 rfl 2 rfl ?_
  refine g_aload_n (pc := 1036) C dL_law_1036 rfl 3 rfl ?_
  refine g_iload_n (pc := 1037) C dL_law_1037 rfl 0 rfl ?_
  refine g_iconst (v := 1) (pc := 1038) C dL_law_1038 (by decide) ?_
  refine g_iadd (pc := 1039) C dL_law_1039 ?_
  refine g_arg (pc := 1040) C X (j := 1) rfl (by omega) hL dL_law_1040 ?_
  refine g_aload_n (pc := 1041) C dL_law_1041 rfl 3 rfl ?_
  refine g_iload_n (pc := 1042) C dL_law_1042 rfl 0 rfl ?_
  refine g_iconst (v := 2) (pc := 1043) C dL_law_1043 (by decide) ?_
  refine g_iadd (pc := 1044) C dL_law_1044 ?_
  refine g_arg (pc := 1045) C X (j := 2) rfl (by omega) hL dL_law_1045 ?_
  refine g_aload_n (pc := 1046) C dL_law_1046 rfl 3 rfl ?_
  refine g_iload_n (pc := 1047) C dL_law_1047 rfl 0 rfl ?_
  refine g_iconst (v := 3) (pc := 1048) C dL_law_1048 (by decide) ?_
  refine g_iadd (pc := 1049) C dL_law_1049 ?_
  refine g_arg (pc := 1050) C X (j := 3) rfl (by omega) hL dL_law_1050 ?_
  refine g_aload_n (pc := 1051) C dL_law_1051 rfl 3 rfl ?_
  refine g_iload_n (pc := 1052) C dL_law_1052 rfl 0 rfl ?_
  refine g_iconst (v := 4) (pc := 1053) C dL_law_1053 (by decide) ?_
  refine g_iadd (pc := 1054) C dL_law_1054 ?_
  refine g_arg (pc := 1055) C X (j := 4) rfl (by omega) hL dL_law_1055 ?_
  refine g_callVl (pc := 1056) (k := 0) (As := [.int (xs (6 * Q + 1)), .int (xs (6 * Q + 2)), .int (xs (6 * Q + 3)), .int (xs (6 * Q + 4))]) (rest := []) C dL_law_1056 (fun l => c_X4_odds l y 0 (xs (6 * Q + 1)) (xs (6 * Q + 2)) (xs (6 * Q + 3)) (xs (6 * Q + 4)) σ σ1 r e1) ⟨wm_L_125, wi_X4_odds, wv_X4_odds, wn_X4, wc_X4_odds, hdL_X4_odds⟩ ⟨rfl, rfl, Nat.le_of_ble_eq_true rfl, Nat.le_of_ble_eq_true rfl⟩ (Or.inl ⟨TX4, 7, by decide, rfl⟩) rfl (Nat.le_of_ble_eq_true rfl) ?_
  refine g_aload_n (pc := 1059) C dL_law_1059 rfl 1 rfl ?_
  refine g_aload_n (pc := 1060) C dL_law_1060 rfl 3 rfl ?_
  refine g_iload_n (pc := 1061) C dL_law_1061 rfl 0 rfl ?_
  refine g_iconst (v := 1) (pc := 1062) C dL_law_1062 (by decide) ?_
  refine g_iadd (pc := 1063) C dL_law_1063 ?_
  refine g_arg (pc := 1064) C X (j := 1) rfl (by omega) hL dL_law_1064 ?_
  refine g_aload_n (pc := 1065) C dL_law_1065 rfl 3 rfl ?_
  refine g_iload_n (pc := 1066) C dL_law_1066 rfl 0 rfl ?_
  refine g_iconst (v := 2) (pc := 1067) C dL_law_1067 (by decide) ?_
  refine g_iadd (pc := 1068) C dL_law_1068 ?_
  refine g_arg (pc := 1069) C X (j := 2) rfl (by omega) hL dL_law_1069 ?_
  refine g_aload_n (pc := 1070) C dL_law_1070 rfl 3 rfl ?_
  refine g_iload_n (pc := 1071) C dL_law_1071 rfl 0 rfl ?_
  refine g_iconst (v := 3) (pc := 1072) C dL_law_1072 (by decide) ?_
  refine g_iadd (pc := 1073) C dL_law_1073 ?_
  refine g_arg (pc := 1074) C X (j := 3) rfl (by omega) hL dL_law_1074 ?_
  refine g_aload_n (pc := 1075) C dL_law_1075 rfl 3 rfl ?_
  refine g_iload_n (pc := 1076) C dL_law_1076 rfl 0 rfl ?_
  refine g_iconst (v := 4) (pc := 1077) C dL_law_1077 (by decide) ?_
  refine g_iadd (pc := 1078) C dL_law_1078 ?_
  refine g_arg (pc := 1079) C X (j := 4) rfl (by omega) hL dL_law_1079 ?_
  refine g_callVl (pc := 1080) (k := 49) (As := [.int (xs (6 * Q + 1)), .int (xs (6 * Q + 2)), .int (xs (6 * Q + 3)), .int (xs (6 * Q + 4))]) (rest := [.long r]) C dL_law_1080 (fun l => c_X5_odds l y 49 (xs (6 * Q + 1)) (xs (6 * Q + 2)) (xs (6 * Q + 3)) (xs (6 * Q + 4)) σ1 σ2 r e2) ⟨wm_L_129, wi_X5_odds, wv_X5_odds, wn_X5, wc_X5_odds, hdL_X5_odds⟩ ⟨rfl, rfl, Nat.le_of_ble_eq_true rfl, Nat.le_of_ble_eq_true rfl⟩ (Or.inl ⟨TX5, 22, by decide, rfl⟩) rfl (Nat.le_of_ble_eq_true rfl) ?_
  refine g_lcmp (pc := 1083) C dL_law_1083 ?_
  exact g_if_eq (pc := 1084) (tgt := 1517) C dL_law_1084 rfl (fun _ => kk σ2 hR2) (fun h => absurd (lcmp_s r) h)
theorem hdL_X4_seed : yX4_seed.cls ≠ "java/lang/invoke/MethodHandle" ∧ yX4_seed.cls ≠ "java/lang/invoke/VarHandle" ∧ (parseMethodDescriptor yX4_seed.desc).map (fun d => d.parameters.length) = some 1 := ⟨by decide, by decide, by decide +kernel⟩
theorem hdL_X5_seed : yX5_seed.cls ≠ "java/lang/invoke/MethodHandle" ∧ yX5_seed.cls ≠ "java/lang/invoke/VarHandle" ∧ (parseMethodDescriptor yX5_seed.desc).map (fun d => d.parameters.length) = some 1 := ⟨by decide, by decide, by decide +kernel⟩
theorem lc_28 (C : Cx x y A RL cL_law 4 room_1) (X : SX x A b L xs) (hQ : 6 * Q + 6 ≤ L) (hL : L ≤ 3072) (hR : Rel Q σ) (kk : ∀ σ2, Rel (Q + 1) σ2 → GW x y A 4 Z 1517 (LV y b Q) [] σ2) : GW x y A 4 Z 1089 (LV y b Q) [] σ := by
  obtain ⟨r, σ1, σ2, e1, e2, hR2⟩ := op_seed (xs (6 * Q + 1)) Q σ (by omega) hR
  refine g_aload_n (pc := 1089) C dL_law_1089 rfl 2 rfl ?_
  refine g_aload_n (pc := 1090) C dL_law_1090 rfl 3 rfl ?_
  refine g_iload_n (pc := 1091) C dL_law_1091 rfl 0 rfl ?_
  refine g_iconst (v := 1) (pc := 1092) C dL_law_1092 (by decide) ?_
  refine g_iadd (pc := 1093) C dL_law_1093 ?_
  refine g_arg (pc := 1094) C X (j := 1) rfl (by omega) hL dL_law_1094 ?_
  refine g_callVi (pc := 1095) (k := 0) (As := [.int (xs (6 * Q + 1))]) (rest := []) C dL_law_1095 (fun l => c_X4_seed l y 0 (xs (6 * Q + 1)) σ σ1 r e1) ⟨wm_L_130, wi_X4_seed, wv_X4_seed, wn_X4, wc_X4_seed, hdL_X4_seed⟩ ⟨rfl, rfl, Nat.le_of_ble_eq_true rfl, Nat.le_of_ble_eq_true rfl⟩ (Or.inl ⟨TX4, 7, by decide, rfl⟩) rfl (Nat.le_of_ble_eq_true rfl) ?_
  refine g_aload_n (pc := 1098) C dL_law_1098 rfl 1 rfl ?_
  refine g_aload_n (pc := 1099) C dL_law_1099 rfl 3 rfl ?_
  refine g_iload_n (pc := 1100) C dL_law_1100 rfl 0 rfl ?_
  refine g_iconst (v := 1) (pc := 1101) C dL_law_1101 (by decide) ?_
  refine g_iadd (pc := 1102) C dL_law_1102 ?_
  refine g_arg (pc := 1103) C X (j := 1) rfl (by omega) hL dL_law_1103 ?_
  refine g_callVi (pc := 1104) (k := 49) (As := [.int (xs (6 * Q + 1))]) (rest := [.int r]) C dL_law_1104 (fun l => c_X5_seed l y 49 (xs (6 * Q + 1)) σ1 σ2 r e2) ⟨wm_L_133, wi_X5_seed, wv_X5_seed, wn_X5, wc_X5_seed, hdL_X5_seed⟩ ⟨rfl, rfl, Nat.le_of_ble_eq_true rfl, Nat.le_of_ble_eq_true rfl⟩ (Or.inl ⟨TX5, 22, by decide, rfl⟩) rfl (Nat.le_of_ble_eq_true rfl) ?_
  exact g_icmp_eq (pc := 1107) (tgt := 1517) C dL_law_1107 rfl (fun _ => kk σ2 hR2) (fun h => absurd rfl h)
theorem hdL_X4_feed : yX4_feed.cls ≠ "java/lang/invoke/MethodHandle" ∧ yX4_feed.cls ≠ "java/lang/invoke/VarHandle" ∧ (parseMethodDescriptor yX4_feed.desc).map (fun d => d.parameters.length) = some 2 := ⟨by decide, by decide, by decide +kernel⟩
theorem hdL_X5_feed : yX5_feed.cls ≠ "java/lang/invoke/MethodHandle" ∧ yX5_feed.cls ≠ "java/lang/invoke/VarHandle" ∧ (parseMethodDescriptor yX5_feed.desc).map (fun d => d.parameters.length) = some 2 := ⟨by decide, by decide, by decide +kernel⟩
theorem lc_29 (C : Cx x y A RL cL_law 4 room_1) (X : SX x A b L xs) (hQ : 6 * Q + 6 ≤ L) (hL : L ≤ 3072) (hR : Rel Q σ) (kk : ∀ σ2, Rel (Q + 1) σ2 → GW x y A 4 Z 1517 (LV y b Q) [] σ2) : GW x y A 4 Z 1112 (LV y b Q) [] σ := by
  obtain ⟨r, σ1, σ2, e1, e2, hR2⟩ := op_feed (xs (6 * Q + 1)) (xs (6 * Q + 2)) Q σ (by omega) hR
  refine g_aload_n (pc := 1112) C dL_law_1112 rfl 2 rfl ?_
  refine g_aload_n (pc := 1113) C dL_law_1113 rfl 3 rfl ?_
  refine g_iload_n (pc := 1114) C dL_law_1114 rfl 0 rfl ?_
  refine g_iconst (v := 1) (pc := 1115) C dL_law_1115 (by decide) ?_
  refine g_iadd (pc := 1116) C dL_law_1116 ?_
  refine g_arg (pc := 1117) C X (j := 1) rfl (by omega) hL dL_law_1117 ?_
  refine g_aload_n (pc := 1118) C dL_law_1118 rfl 3 rfl ?_
  refine g_iload_n (pc := 1119) C dL_law_1119 rfl 0 rfl ?_
  refine g_iconst (v := 2) (pc := 1120) C dL_law_1120 (by decide) ?_
  refine g_iadd (pc := 1121) C dL_law_1121 ?_
  refine g_arg (pc := 1122) C X (j := 2) rfl (by omega) hL dL_law_1122 ?_
  refine g_callVi (pc := 1123) (k := 0) (As := [.int (xs (6 * Q + 1)), .int (xs (6 * Q + 2))]) (rest := []) C dL_law_1123 (fun l => c_X4_feed l y 0 (xs (6 * Q + 1)) (xs (6 * Q + 2)) σ σ1 r e1) ⟨wm_L_134, wi_X4_feed, wv_X4_feed, wn_X4, wc_X4_feed, hdL_X4_feed⟩ ⟨rfl, rfl, Nat.le_of_ble_eq_true rfl, Nat.le_of_ble_eq_true rfl⟩ (Or.inl ⟨TX4, 7, by decide, rfl⟩) rfl (Nat.le_of_ble_eq_true rfl) ?_
  refine g_aload_n (pc := 1126) C dL_law_1126 rfl 1 rfl ?_
  refine g_aload_n (pc := 1127) C dL_law_1127 rfl 3 rfl ?_
  refine g_iload_n (pc := 1128) C dL_law_1128 rfl 0 rfl ?_
  refine g_iconst (v := 1) (pc := 1129) C dL_law_1129 (by decide) ?_
  refine g_iadd (pc := 1130) C dL_law_1130 ?_
  refine g_arg (pc := 1131) C X (j := 1) rfl (by omega) hL dL_law_1131 ?_
  refine g_aload_n (pc := 1132) C dL_law_1132 rfl 3 rfl ?_
  refine g_iload_n (pc := 1133) C dL_law_1133 rfl 0 rfl ?_
  refine g_iconst (v := 2) (pc := 1134) C dL_law_1134 (by decide) ?_
  refine g_iadd (pc := 1135) C dL_law_1135 ?_
  refine g_arg (pc := 1136) C X (j := 2) rfl (by omega) hL dL_law_1136 ?_
  refine g_callVi (pc := 1137) (k := 49) (As := [.int (xs (6 * Q + 1)), .int (xs (6 * Q + 2))]) (rest := [.int r]) C dL_law_1137 (fun l => c_X5_feed l y 49 (xs (6 * Q + 1)) (xs (6 * Q + 2)) σ1 σ2 r e2) ⟨wm_L_137, wi_X5_feed, wv_X5_feed, wn_X5, wc_X5_feed, hdL_X5_feed⟩ ⟨rfl, rfl, Nat.le_of_ble_eq_true rfl, Nat.le_of_ble_eq_true rfl⟩ (Or.inl ⟨TX5, 22, by decide, rfl⟩) rfl (Nat.le_of_ble_eq_true rfl) ?_
  exact g_icmp_eq (pc := 1140) (tgt := 1517) C dL_law_1140 rfl (fun _ => kk σ2 hR2) (fun h => absurd rfl h)
theorem hdL_X4_wipe : yX4_wipe.cls ≠ "java/lang/invoke/MethodHandle" ∧ yX4_wipe.cls ≠ "java/lang/invoke/VarHandle" ∧ (parseMethodDescriptor yX4_wipe.desc).map (fun d => d.parameters.length) = some 0 := ⟨by decide, by decide, by decide +kernel⟩
theorem hdL_X5_wipe : yX5_wipe.cls ≠ "java/lang/invoke/MethodHandle" ∧ yX5_wipe.cls ≠ "java/lang/invoke/VarHandle" ∧ (parseMethodDescriptor yX5_wipe.desc).map (fun d => d.parameters.length) = some 0 := ⟨by decide, by decide, by decide +kernel⟩
theorem lc_30 (C : Cx x y A RL cL_law 4 room_1) (X : SX x A b L xs) (hQ : 6 * Q + 6 ≤ L) (hL : L ≤ 3072) (hR : Rel Q σ) (kk : ∀ σ2, Rel (Q + 1) σ2 → GW x y A 4 Z 1517 (LV y b Q) [] σ2) : GW x y A 4 Z 1145 (LV y b Q) [] σ := by
  obtain ⟨r, σ1, σ2, e1, e2, hR2⟩ := op_wipe  Q σ (by omega) hR
  refine g_aload_n (pc := 1145) C dL_law_1145 rfl 2 rfl ?_
  refine g_callVi (pc := 1146) (k := 0) (As := []) (rest := []) C dL_law_1146 (fun l => c_X4_wipe l y 0  σ σ1 r e1) ⟨wm_L_138, wi_X4_wipe, wv_X4_wipe, wn_X4, wc_X4_wipe, hdL_X4_wipe⟩ ⟨rfl, rfl, Nat.le_of_ble_eq_true rfl, Nat.le_of_ble_eq_true rfl⟩ (Or.inl ⟨TX4, 7, by decide, rfl⟩) rfl (Nat.le_of_ble_eq_true rfl) ?_
  refine g_aload_n (pc := 1149) C dL_law_1149 rfl 1 rfl ?_
  refine g_callVi (pc := 1150) (k := 49) (As := []) (rest := [.int r]) C dL_law_1150 (fun l => c_X5_wipe l y 49  σ1 σ2 r e2) ⟨wm_L_141, wi_X5_wipe, wv_X5_wipe, wn_X5, wc_X5_wipe, hdL_X5_wipe⟩ ⟨rfl, rfl, Nat.le_of_ble_eq_true rfl, Nat.le_of_ble_eq_true rfl⟩ (Or.inl ⟨TX5, 22, by decide, rfl⟩) rfl (Nat.le_of_ble_eq_true rfl) ?_
  exact g_icmp_eq (pc := 1153) (tgt := 1517) C dL_law_1153 rfl (fun _ => kk σ2 hR2) (fun h => absurd rfl h)
theorem hdL_X4_text : yX4_text.cls ≠ "java/lang/invoke/MethodHandle" ∧ yX4_text.cls ≠ "java/lang/invoke/VarHandle" ∧ (parseMethodDescriptor yX4_text.desc).map (fun d => d.parameters.length) = some 0 := ⟨by decide, by decide, by decide +kernel⟩
theorem hdL_X5_text : yX5_text.cls ≠ "java/lang/invoke/MethodHandle" ∧ yX5_text.cls ≠ "java/lang/invoke/VarHandle" ∧ (parseMethodDescriptor yX5_text.desc).map (fun d => d.parameters.length) = some 0 := ⟨by decide, by decide, by decide +kernel⟩
theorem lc_31 (C : Cx x y A RL cL_law 4 room_1) (X : SX x A b L xs) (hQ : 6 * Q + 6 ≤ L) (hL : L ≤ 3072) (hR : Rel Q σ) (kk : ∀ σ2, Rel (Q + 1) σ2 → GW x y A 4 Z 1517 (LV y b Q) [] σ2) : GW x y A 4 Z 1158 (LV y b Q) [] σ := by
  obtain ⟨r, σ1, σ2, e1, e2, hR2⟩ := op_text  Q σ (by omega) hR
  refine g_aload_n (pc := 1158) C dL_law_1158 rfl 2 rfl ?_
  refine g_callVi (pc := 1159) (k := 0) (As := []) (rest := []) C dL_law_1159 (fun l => c_X4_text l y 0  σ σ1 r e1) ⟨wm_L_142, wi_X4_text, wv_X4_text, wn_X4, wc_X4_text, hdL_X4_text⟩ ⟨rfl, rfl, Nat.le_of_ble_eq_true rfl, Nat.le_of_ble_eq_true rfl⟩ (Or.inl ⟨TX4, 7, by decide, rfl⟩) rfl (Nat.le_of_ble_eq_true rfl) ?_
  refine g_aload_n (pc := 1162) C dL_law_1162 rfl 1 rfl ?_
  refine g_callVi (pc := 1163) (k := 49) (As := []) (rest := [.int r]) C dL_law_1163 (fun l => c_X5_text l y 49  σ1 σ2 r e2) ⟨wm_L_145, wi_X5_text, wv_X5_text, wn_X5, wc_X5_text, hdL_X5_text⟩ ⟨rfl, rfl, Nat.le_of_ble_eq_true rfl, Nat.le_of_ble_eq_true rfl⟩ (Or.inl ⟨TX5, 22, by decide, rfl⟩) rfl (Nat.le_of_ble_eq_true rfl) ?_
  exact g_icmp_eq (pc := 1166) (tgt := 1517) C dL_law_1166 rfl (fun _ => kk σ2 hR2) (fun h => absurd rfl h)
theorem hdL_X4_hold : yX4_hold.cls ≠ "java/lang/invoke/MethodHandle" ∧ yX4_hold.cls ≠ "java/lang/invoke/VarHandle" ∧ (parseMethodDescriptor yX4_hold.desc).map (fun d => d.parameters.length) = some 2 := ⟨by decide, by decide, by decide +kernel⟩
theorem hdL_X5_hold : yX5_hold.cls ≠ "java/lang/invoke/MethodHandle" ∧ yX5_hold.cls ≠ "java/lang/invoke/VarHandle" ∧ (parseMethodDescriptor yX5_hold.desc).map (fun d => d.parameters.length) = some 2 := ⟨by decide, by decide, by decide +kernel⟩
theorem lc_32 (C : Cx x y A RL cL_law 4 room_1) (X : SX x A b L xs) (hQ : 6 * Q + 6 ≤ L) (hL : L ≤ 3072) (hR : Rel Q σ) (kk : ∀ σ2, Rel (Q + 1) σ2 → GW x y A 4 Z 1517 (LV y b Q) [] σ2) : GW x y A 4 Z 1171 (LV y b Q) [] σ := by
  obtain ⟨r, σ1, σ2, e1, e2, hR2⟩ := op_hold (xs (6 * Q + 1)) (xs (6 * Q + 2)) Q σ (by omega) hR
  refine g_aload_n (pc := 1171) C dL_law_1171 rfl 2 rfl ?_
  refine g_aload_n (pc := 1172) C dL_law_1172 rfl 3 rfl ?_
  refine g_iload_n (pc := 1173) C dL_law_1173 rfl 0 rfl ?_
  refine g_iconst (v := 1) (pc := 1174) C dL_law_1174 (by decide) ?_
  refine g_iadd (pc := 1175) C dL_law_1175 ?_
  refine g_arg (pc := 1176) C X (j := 1) rfl (by omega) hL dL_law_1176 ?_
  refine g_aload_n (pc := 1177) C dL_law_1177 rfl 3 rfl ?_
  refine g_iload_n (pc := 1178) C dL_law_1178 rfl 0 rfl ?_
  refine g_iconst (v := 2) (pc := 1179) C dL_law_1179 (by decide) ?_
  refine g_iadd (pc := 1180) C dL_law_1180 ?_
  refine g_arg (pc := 1181) C X (j := 2) rfl (by omega) hL dL_law_1181 ?_
  refine g_callVi (pc := 1182) (k := 0) (As := [.int (xs (6 * Q + 1)), .int (xs (6 * Q + 2))]) (rest := []) C dL_law_1182 (fun l => c_X4_hold l y 0 (xs (6 * Q + 1)) (xs (6 * Q + 2)) σ σ1 r e1) ⟨wm_L_146, wi_X4_hold, wv_X4_hold, wn_X4, wc_X4_hold, hdL_X4_hold⟩ ⟨rfl, rfl, Nat.le_of_ble_eq_true rfl, Nat.le_of_ble_eq_true rfl⟩ (Or.inl ⟨TX4, 7, by decide, rfl⟩) rfl (Nat.le_of_ble_eq_true rfl) ?_
  refine g_aload_n (pc := 1185) C dL_law_1185 rfl 1 rfl ?_
  refine g_aload_n (pc := 1186) C dL_law_1186 rfl 3 rfl ?_
  refine g_iload_n (pc := 1187) C dL_law_1187 rfl 0 rfl ?_
  refine g_iconst (v := 1) (pc := 1188) C dL_law_1188 (by decide) ?_
  refine g_iadd (pc := 1189) C dL_law_1189 ?_
  refine g_arg (pc := 1190) C X (j := 1) rfl (by omega) hL dL_law_1190 ?_
  refine g_aload_n (pc := 1191) C dL_law_1191 rfl 3 rfl ?_
  refine g_iload_n (pc := 1192) C dL_law_1192 rfl 0 rfl ?_
  refine g_iconst (v := 2) (pc := 1193) C dL_law_1193 (by decide) ?_
  refine g_iadd (pc := 1194) C dL_law_1194 ?_
  refine g_arg (pc := 1195) C X (j := 2) rfl (by omega) hL dL_law_1195 ?_
  refine g_callVi (pc := 1196) (k := 49) (As := [.int (xs (6 * Q + 1)), .int (xs (6 * Q + 2))]) (rest := [.int r]) C dL_law_1196 (fun l => c_X5_hold l y 49 (xs (6 * Q + 1)) (xs (6 * Q + 2)) σ1 σ2 r e2) ⟨wm_L_149, wi_X5_hold, wv_X5_hold, wn_X5, wc_X5_hold, hdL_X5_hold⟩ ⟨rfl, rfl, Nat.le_of_ble_eq_true rfl, Nat.le_of_ble_eq_true rfl⟩ (Or.inl ⟨TX5, 22, by decide, rfl⟩) rfl (Nat.le_of_ble_eq_true rfl) ?_
  exact g_icmp_eq (pc := 1199) (tgt := 1517) C dL_law_1199 rfl (fun _ => kk σ2 hR2) (fun h => absurd rfl h)
theorem hdL_X4_as : yX4_as.cls ≠ "java/lang/invoke/MethodHandle" ∧ yX4_as.cls ≠ "java/lang/invoke/VarHandle" ∧ (parseMethodDescriptor yX4_as.desc).map (fun d => d.parameters.length) = some 2 := ⟨by decide, by decide, by decide +kernel⟩
theorem hdL_X5_as : yX5_as.cls ≠ "java/lang/invoke/MethodHandle" ∧ yX5_as.cls ≠ "java/lang/invoke/VarHandle" ∧ (parseMethodDescriptor yX5_as.desc).map (fun d => d.parameters.length) = some 2 := ⟨by decide, by decide, by decide +kernel⟩
theorem lc_33 (C : Cx x y A RL cL_law 4 room_1) (X : SX x A b L xs) (hQ : 6 * Q + 6 ≤ L) (hL : L ≤ 3072) (hR : Rel Q σ) (kk : ∀ σ2, Rel (Q + 1) σ2 → GW x y A 4 Z 1517 (LV y b Q) [] σ2) : GW x y A 4 Z 1204 (LV y b Q) [] σ := by
  obtain ⟨r, σ1, σ2, e1, e2, hR2⟩ := op_as (xs (6 * Q + 1)) (xs (6 * Q + 2)) Q σ (by omega) hR
  refine g_aload_n (pc := 1204) C dL_law_1204 rfl 2 rfl ?_
  refine g_aload_n (pc := 1205) C dL_law_1205 rfl 3 rfl ?_
  refine g_iload_n (pc := 1206) C dL_law_1206 rfl 0 rfl ?_
  refine g_iconst (v := 1) (pc := 1207) C dL_law_1207 (by decide) ?_
  refine g_iadd (pc := 1208) C dL_law_1208 ?_
  refine g_arg (pc := 1209) C X (j := 1) rfl (by omega) hL dL_law_1209 ?_
  refine g_aload_n (pc := 1210) C dL_law_1210 rfl 3 rfl ?_
  refine g_iload_n (pc := 1211) C dL_law_1211 rfl 0 rfl ?_
  refine g_iconst (v := 2) (pc := 1212) C dL_law_1212 (by decide) ?_
  refine g_iadd (pc := 1213) C dL_law_1213 ?_
  refine g_arg (pc := 1214) C X (j := 2) rfl (by omega) hL dL_law_1214 ?_
  refine g_callVi (pc := 1215) (k := 0) (As := [.int (xs (6 * Q + 1)), .int (xs (6 * Q + 2))]) (rest := []) C dL_law_1215 (fun l => c_X4_as l y 0 (xs (6 * Q + 1)) (xs (6 * Q + 2)) σ σ1 r e1) ⟨wm_L_150, wi_X4_as, wv_X4_as, wn_X4, wc_X4_as, hdL_X4_as⟩ ⟨rfl, rfl, Nat.le_of_ble_eq_true rfl, Nat.le_of_ble_eq_true rfl⟩ (Or.inl ⟨TX4, 7, by decide, rfl⟩) rfl (Nat.le_of_ble_eq_true rfl) ?_
  refine g_aload_n (pc := 1218) C dL_law_1218 rfl 1 rfl ?_
  refine g_aload_n (pc := 1219) C dL_law_1219 rfl 3 rfl ?_
  refine g_iload_n (pc := 1220) C dL_law_1220 rfl 0 rfl ?_
  refine g_iconst (v := 1) (pc := 1221) C dL_law_1221 (by decide) ?_
  refine g_iadd (pc := 1222) C dL_law_1222 ?_
  refine g_arg (pc := 1223) C X (j := 1) rfl (by omega) hL dL_law_1223 ?_
  refine g_aload_n (pc := 1224) C dL_law_1224 rfl 3 rfl ?_
  refine g_iload_n (pc := 1225) C dL_law_1225 rfl 0 rfl ?_
  refine g_iconst (v := 2) (pc := 1226) C dL_law_1226 (by decide) ?_
  refine g_iadd (pc := 1227) C dL_law_1227 ?_
  refine g_arg (pc := 1228) C X (j := 2) rfl (by omega) hL dL_law_1228 ?_
  refine g_callVi (pc := 1229) (k := 49) (As := [.int (xs (6 * Q + 1)), .int (xs (6 * Q + 2))]) (rest := [.int r]) C dL_law_1229 (fun l => c_X5_as l y 49 (xs (6 * Q + 1)) (xs (6 * Q + 2)) σ1 σ2 r e2) ⟨wm_L_153, wi_X5_as, wv_X5_as, wn_X5, wc_X5_as, hdL_X5_as⟩ ⟨rfl, rfl, Nat.le_of_ble_eq_true rfl, Nat.le_of_ble_eq_true rfl⟩ (Or.inl ⟨TX5, 22, by decide, rfl⟩) rfl (Nat.le_of_ble_eq_true rfl) ?_
  exact g_icmp_eq (pc := 1232) (tgt := 1517) C dL_law_1232 rfl (fun _ => kk σ2 hR2) (fun h => absurd rfl h)
theorem hdL_X4_sheet : yX4_sheet.cls ≠ "java/lang/invoke/MethodHandle" ∧ yX4_sheet.cls ≠ "java/lang/invoke/VarHandle" ∧ (parseMethodDescriptor yX4_sheet.desc).map (fun d => d.parameters.length) = some 3 := ⟨by decide, by decide, by decide +kernel⟩
theorem hdL_X5_sheet : yX5_sheet.cls ≠ "java/lang/invoke/MethodHandle" ∧ yX5_sheet.cls ≠ "java/lang/invoke/VarHandle" ∧ (parseMethodDescriptor yX5_sheet.desc).map (fun d => d.parameters.length) = some 3 := ⟨by decide, by decide, by decide +kernel⟩
theorem lc_34 (C : Cx x y A RL cL_law 4 room_1) (X : SX x A b L xs) (hQ : 6 * Q + 6 ≤ L) (hL : L ≤ 3072) (hR : Rel Q σ) (kk : ∀ σ2, Rel (Q + 1) σ2 → GW x y A 4 Z 1517 (LV y b Q) [] σ2) : GW x y A 4 Z 1237 (LV y b Q) [] σ := by
  obtain ⟨r, σ1, σ2, e1, e2, hR2⟩ := op_sheet (xs (6 * Q + 1)) (xs (6 * Q + 2)) (xs (6 * Q + 3)) Q σ (by omega) hR
  refine g_aload_n (pc := 1237) C dL_law_1237 rfl 2 rfl ?_
  refine g_aload_n (pc := 1238) C dL_law_1238 rfl 3 rfl ?_
  refine g_iload_n (pc := 1239) C dL_law_1239 rfl 0 rfl ?_
  refine g_iconst (v := 1) (pc := 1240) C dL_law_1240 (by decide) ?_
  refine g_iadd (pc := 1241) C dL_law_1241 ?_
  refine g_arg (pc := 1242) C X (j := 1) rfl (by omega) hL dL_law_1242 ?_
  refine g_aload_n (pc := 1243) C dL_law_1243 rfl 3 rfl ?_
  refine g_iload_n (pc := 1244) C dL_law_1244 rfl 0 rfl ?_
  refine g_iconst (v := 2) (pc := 1245) C dL_law_1245 (by decide) ?_
  refine g_iadd (pc := 1246) C dL_law_1246 ?_
  refine g_arg (pc := 1247) C X (j := 2) rfl (by omega) hL dL_law_1247 ?_
  refine g_aload_n (pc := 1248) C dL_law_1248 rfl 3 rfl ?_
  refine g_iload_n (pc := 1249) C dL_law_1249 rfl 0 rfl ?_
  refine g_iconst (v := 3) (pc := 1250) C dL_law_1250 (by decide) ?_
  refine g_iadd (pc := 1251) C dL_law_1251 ?_
  refine g_arg (pc := 1252) C X (j := 3) rfl (by omega) hL dL_law_1252 ?_
  refine g_callVi (pc := 1253) (k := 0) (As := [.int (xs (6 * Q + 1)), .int (xs (6 * Q + 2)), .int (xs (6 * Q + 3))]) (rest := []) C dL_law_1253 (fun l => c_X4_sheet l y 0 (xs (6 * Q + 1)) (xs (6 * Q + 2)) (xs (6 * Q + 3)) σ σ1 r e1) ⟨wm_L_154, wi_X4_sheet, wv_X4_sheet, wn_X4, wc_X4_sheet, hdL_X4_sheet⟩ ⟨rfl, rfl, Nat.le_of_ble_eq_true rfl, Nat.le_of_ble_eq_true rfl⟩ (Or.inl ⟨TX4, 7, by decide, rfl⟩) rfl (Nat.le_of_ble_eq_true rfl) ?_
  refine g_aload_n (pc := 1256) C dL_law_1256 rfl 1 rfl ?_
  refine g_aload_n (pc := 1257) C dL_law_1257 rfl 3 rfl ?_
  refine g_iload_n (pc := 1258) C dL_law_1258 rfl 0 rfl ?_
  refine g_iconst (v := 1) (pc := 1259) C dL_law_1259 (by decide) ?_
  refine g_iadd (pc := 1260) C dL_law_1260 ?_
  refine g_arg (pc := 1261) C X (j := 1) rfl (by omega) hL dL_law_1261 ?_
  refine g_aload_n (pc := 1262) C dL_law_1262 rfl 3 rfl ?_
  refine g_iload_n (pc := 1263) C dL_law_1263 rfl 0 rfl ?_
  refine g_iconst (v := 2) (pc := 1264) C dL_law_1264 (by decide) ?_
  refine g_iadd (pc := 1265) C dL_law_1265 ?_
  refine g_arg (pc := 1266) C X (j := 2) rfl (by omega) hL dL_law_1266 ?_
  refine g_aload_n (pc := 1267) C dL_law_1267 rfl 3 rfl ?_
  refine g_iload_n (pc := 1268) C dL_law_1268 rfl 0 rfl ?_
  refine g_iconst (v := 3) (pc := 1269) C dL_law_1269 (by decide) ?_
  refine g_iadd (pc := 1270) C dL_law_1270 ?_
  refine g_arg (pc := 1271) C X (j := 3) rfl (by omega) hL dL_law_1271 ?_
  refine g_callVi (pc := 1272) (k := 49) (As := [.int (xs (6 * Q + 1)), .int (xs (6 * Q + 2)), .int (xs (6 * Q + 3))]) (rest := [.int r]) C dL_law_1272 (fun l => c_X5_sheet l y 49 (xs (6 * Q + 1)) (xs (6 * Q + 2)) (xs (6 * Q + 3)) σ1 σ2 r e2) ⟨wm_L_157, wi_X5_sheet, wv_X5_sheet, wn_X5, wc_X5_sheet, hdL_X5_sheet⟩ ⟨rfl, rfl, Nat.le_of_ble_eq_true rfl, Nat.le_of_ble_eq_true rfl⟩ (Or.inl ⟨TX5, 22, by decide, rfl⟩) rfl (Nat.le_of_ble_eq_true rfl) ?_
  exact g_icmp_eq (pc := 1275) (tgt := 1517) C dL_law_1275 rfl (fun _ => kk σ2 hR2) (fun h => absurd rfl h)
theorem hdL_X4_write : yX4_write.cls ≠ "java/lang/invoke/MethodHandle" ∧ yX4_write.cls ≠ "java/lang/invoke/VarHandle" ∧ (parseMethodDescriptor yX4_write.desc).map (fun d => d.parameters.length) = some 3 := ⟨by decide, by decide, by decide +kernel⟩
theorem hdL_X5_write : yX5_write.cls ≠ "java/lang/invoke/MethodHandle" ∧ yX5_write.cls ≠ "java/lang/invoke/VarHandle" ∧ (parseMethodDescriptor yX5_write.desc).map (fun d => d.parameters.length) = some 3 := ⟨by decide, by decide, by decide +kernel⟩
theorem lc_35 (C : Cx x y A RL cL_law 4 room_1) (X : SX x A b L xs) (hQ : 6 * Q + 6 ≤ L) (hL : L ≤ 3072) (hR : Rel Q σ) (kk : ∀ σ2, Rel (Q + 1) σ2 → GW x y A 4 Z 1517 (LV y b Q) [] σ2) : GW x y A 4 Z 1280 (LV y b Q) [] σ := by
  obtain ⟨r, σ1, σ2, e1, e2, hR2⟩ := op_write (xs (6 * Q + 1)) (xs (6 * Q + 2)) (xs (6 * Q + 3)) Q σ (by omega) hR
  refine g_aload_n (pc := 1280) C dL_law_1280 rfl 2 rfl ?_
  refine g_aload_n (pc := 1281) C dL_law_1281 rfl 3 rfl ?_
  refine g_iload_n (pc := 1282) C dL_law_1282 rfl 0 rfl ?_
  refine g_iconst (v := 1) (pc := 1283) C dL_law_1283 (by decide) ?_
  refine g_iadd (pc := 1284) C dL_law_1284 ?_
  refine g_arg (pc := 1285) C X (j := 1) rfl (by omega) hL dL_law_1285 ?_
  refine g_aload_n (pc := 1286) C dL_law_1286 rfl 3 rfl ?_
  refine g_iload_n (pc := 1287) C dL_law_1287 rfl 0 rfl ?_
  refine g_iconst (v := 2) (pc := 1288) C dL_law_1288 (by decide) ?_
  refine g_iadd (pc := 1289) C dL_law_1289 ?_
  refine g_arg (pc := 1290) C X (j := 2) rfl (by omega) hL dL_law_1290 ?_
  refine g_aload_n (pc := 1291) C dL_law_1291 rfl 3 rfl ?_
  refine g_iload_n (pc := 1292) C dL_law_1292 rfl 0 rfl ?_
  refine g_iconst (v := 3) (pc := 1293) C dL_law_1293 (by decide) ?_
  refine g_iadd (pc := 1294) C dL_law_1294 ?_
  refine g_arg (pc := 1295) C X (j := 3) rfl (by omega) hL dL_law_1295 ?_
  refine g_callVi (pc := 1296) (k := 0) (As := [.int (xs (6 * Q + 1)), .int (xs (6 * Q + 2)), .int (xs (6 * Q + 3))]) (rest := []) C dL_law_1296 (fun l => c_X4_write l y 0 (xs (6 * Q + 1)) (xs (6 * Q + 2)) (xs (6 * Q + 3)) σ σ1 r e1) ⟨wm_L_158, wi_X4_write, wv_X4_write, wn_X4, wc_X4_write, hdL_X4_write⟩ ⟨rfl, rfl, Nat.le_of_ble_eq_true rfl, Nat.le_of_ble_eq_true rfl⟩ (Or.inl ⟨TX4, 7, by decide, rfl⟩) rfl (Nat.le_of_ble_eq_true rfl) ?_
  refine g_aload_n (pc := 1299) C dL_law_1299 rfl 1 rfl ?_
  refine g_aload_n (pc := 1300) C dL_law_1300 rfl 3 rfl ?_
  refine g_iload_n (pc := 1301) C dL_law_1301 rfl 0 rfl ?_
  refine g_iconst (v := 1) (pc := 1302) C dL_law_1302 (by decide) ?_
  refine g_iadd (pc := 1303) C dL_law_1303 ?_
  refine g_arg (pc := 1304) C X (j := 1) rfl (by omega) hL dL_law_1304 ?_
  refine g_aload_n (pc := 1305) C dL_law_1305 rfl 3 rfl ?_
  refine g_iload_n (pc := 1306) C dL_law_1306 rfl 0 rfl ?_
  refine g_iconst (v := 2) (pc := 1307) C dL_law_1307 (by decide) ?_
  refine g_iadd (pc := 1308) C dL_law_1308 ?_
  refine g_arg (pc := 1309) C X (j := 2) rfl (by omega) hL dL_law_1309 ?_
  refine g_aload_n (pc := 1310) C dL_law_1310 rfl 3 rfl ?_
  refine g_iload_n (pc := 1311) C dL_law_1311 rfl 0 rfl ?_
  refine g_iconst (v := 3) (pc := 1312) C dL_law_1312 (by decide) ?_
  refine g_iadd (pc := 1313) C dL_law_1313 ?_
  refine g_arg (pc := 1314) C X (j := 3) rfl (by omega) hL dL_law_1314 ?_
  refine g_callVi (pc := 1315) (k := 49) (As := [.int (xs (6 * Q + 1)), .int (xs (6 * Q + 2)), .int (xs (6 * Q + 3))]) (rest := [.int r]) C dL_law_1315 (fun l => c_X5_write l y 49 (xs (6 * Q + 1)) (xs (6 * Q + 2)) (xs (6 * Q + 3)) σ1 σ2 r e2) ⟨wm_L_161, wi_X5_write, wv_X5_write, wn_X5, wc_X5_write, hdL_X5_write⟩ ⟨rfl, rfl, Nat.le_of_ble_eq_true rfl, Nat.le_of_ble_eq_true rfl⟩ (Or.inl ⟨TX5, 22, by decide, rfl⟩) rfl (Nat.le_of_ble_eq_true rfl) ?_
  exact g_icmp_eq (pc := 1318) (tgt := 1517) C dL_law_1318 rfl (fun _ => kk σ2 hR2) (fun h => absurd rfl h)
theorem hdL_X4_copy : yX4_copy.cls ≠ "java/lang/invoke/MethodHandle" ∧ yX4_copy.cls ≠ "java/lang/invoke/VarHandle" ∧ (parseMethodDescriptor yX4_copy.desc).map (fun d => d.parameters.length) = some 5 := ⟨by decide, by decide, by decide +kernel⟩
theorem hdL_X5_copy : yX5_copy.cls ≠ "java/lang/invoke/MethodHandle" ∧ yX5_copy.cls ≠ "java/lang/invoke/VarHandle" ∧ (parseMethodDescriptor yX5_copy.desc).map (fun d => d.parameters.length) = some 5 := ⟨by decide, by decide, by decide +kernel⟩
theorem lc_36 (C : Cx x y A RL cL_law 4 room_1) (X : SX x A b L xs) (hQ : 6 * Q + 6 ≤ L) (hL : L ≤ 3072) (hR : Rel Q σ) (kk : ∀ σ2, Rel (Q + 1) σ2 → GW x y A 4 Z 1517 (LV y b Q) [] σ2) : GW x y A 4 Z 1323 (LV y b Q) [] σ := by
  obtain ⟨r, σ1, σ2, e1, e2, hR2⟩ := op_copy (xs (6 * Q + 1)) (xs (6 * Q + 2)) (xs (6 * Q + 3)) (xs (6 * Q + 4)) (xs (6 * Q + 5)) Q σ (by omega) hR
  refine g_aload_n (pc := 1323) C dL_law_1323 rfl 2 rfl ?_
  refine g_aload_n (pc := 1324) C dL_law_1324 rfl 3 rfl ?_
  refine g_iload_n (pc := 1325) C dL_law_1325 rfl 0 rfl ?_
  refine g_iconst (v := 1) (pc := 1326) C dL_law_1326 (by decide) ?_
  refine g_iadd (pc := 1327) C dL_law_1327 ?_
  refine g_arg (pc := 1328) C X (j := 1) rfl (by omega) hL dL_law_1328 ?_
  refine g_aload_n (pc := 1329) C dL_law_1329 rfl 3 rfl ?_
  refine g_iload_n (pc := 1330) C dL_law_1330 rfl 0 rfl ?_
  refine g_iconst (v := 2) (pc := 1331) C dL_law_1331 (by decide) ?_
  refine g_iadd (pc := 1332) C dL_law_1332 ?_
  refine g_arg (pc := 1333) C X (j := 2) rfl (by omega) hL dL_law_1333 ?_
  refine g_aload_n (pc := 1334) C dL_law_1334 rfl 3 rfl ?_
  refine g_iload_n (pc := 1335) C dL_law_1335 rfl 0 rfl ?_
  refine g_iconst (v := 3) (pc := 1336) C dL_law_1336 (by decide) ?_
  refine g_iadd (pc := 1337) C dL_law_1337 ?_
  refine g_arg (pc := 1338) C X (j := 3) rfl (by omega) hL dL_law_1338 ?_
  refine g_aload_n (pc := 1339) C dL_law_1339 rfl 3 rfl ?_
  refine g_iload_n (pc := 1340) C dL_law_1340 rfl 0 rfl ?_
  refine g_iconst (v := 4) (pc := 1341) C dL_law_1341 (by decide) ?_
  refine g_iadd (pc := 1342) C dL_law_1342 ?_
  refine g_arg (pc := 1343) C X (j := 4) rfl (by omega) hL dL_law_1343 ?_
  refine g_aload_n (pc := 1344) C dL_law_1344 rfl 3 rfl ?_
  refine g_iload_n (pc := 1345) C dL_law_1345 rfl 0 rfl ?_
  refine g_iconst (v := 5) (pc := 1346) C dL_law_1346 (by decide) ?_
  refine g_iadd (pc := 1347) C dL_law_1347 ?_
  refine g_arg (pc := 1348) C X (j := 5) rfl (by omega) hL dL_law_1348 ?_
  refine g_callVi (pc := 1349) (k := 0) (As := [.int (xs (6 * Q + 1)), .int (xs (6 * Q + 2)), .int (xs (6 * Q + 3)), .int (xs (6 * Q + 4)), .int (xs (6 * Q + 5))]) (rest := []) C dL_law_1349 (fun l => c_X4_copy l y 0 (xs (6 * Q + 1)) (xs (6 * Q + 2)) (xs (6 * Q + 3)) (xs (6 * Q + 4)) (xs (6 * Q + 5)) σ σ1 r e1) ⟨wm_L_162, wi_X4_copy, wv_X4_copy, wn_X4, wc_X4_copy, hdL_X4_copy⟩ ⟨rfl, rfl, Nat.le_of_ble_eq_true rfl, Nat.le_of_ble_eq_true rfl⟩ (Or.inl ⟨TX4, 7, by decide, rfl⟩) rfl (Nat.le_of_ble_eq_true rfl) ?_
  refine g_aload_n (pc := 1352) C dL_law_1352 rfl 1 rfl ?_
  refine g_aload_n (pc := 1353) C dL_law_1353 rfl 3 rfl ?_
  refine g_iload_n (pc := 1354) C dL_law_1354 rfl 0 rfl ?_
  refine g_iconst (v := 1) (pc := 1355) C dL_law_1355 (by decide) ?_
  refine g_iadd (pc := 1356) C dL_law_1356 ?_
  refine g_arg (pc := 1357) C X (j := 1) rfl (by omega) hL dL_law_1357 ?_
  refine g_aload_n (pc := 1358) C dL_law_1358 rfl 3 rfl ?_
  refine g_iload_n (pc := 1359) C dL_law_1359 rfl 0 rfl ?_
  refine g_iconst (v := 2) (pc := 1360) C dL_law_1360 (by decide) ?_
  refine g_iadd (pc := 1361) C dL_law_1361 ?_
  refine g_arg (pc := 1362) C X (j := 2) rfl (by omega) hL dL_law_1362 ?_
  refine g_aload_n (pc := 1363) C dL_law_1363 rfl 3 rfl ?_
  refine g_iload_n (pc := 1364) C dL_law_1364 rfl 0 rfl ?_
  refine g_iconst (v := 3) (pc := 1365) C dL_law_1365 (by decide) ?_
  refine g_iadd (pc := 1366) C dL_law_1366 ?_
  refine g_arg (pc := 1367) C X (j := 3) rfl (by omega) hL dL_law_1367 ?_
  refine g_aload_n (pc := 1368) C dL_law_1368 rfl 3 rfl ?_
  refine g_iload_n (pc := 1369) C dL_law_1369 rfl 0 rfl ?_
  refine g_iconst (v := 4) (pc := 1370) C dL_law_1370 (by decide) ?_
  refine g_iadd (pc := 1371) C dL_law_1371 ?_
  refine g_arg (pc := 1372) C X (j := 4) rfl (by omega) hL dL_law_1372 ?_
  refine g_aload_n (pc := 1373) C dL_law_1373 rfl 3 rfl ?_
  refine g_iload_n (pc := 1374) C dL_law_1374 rfl 0 rfl ?_
  refine g_iconst (v := 5) (pc := 1375) C dL_law_1375 (by decide) ?_
  refine g_iadd (pc := 1376) C dL_law_1376 ?_
  refine g_arg (pc := 1377) C X (j := 5) rfl (by omega) hL dL_law_1377 ?_
  refine g_callVi (pc := 1378) (k := 49) (As := [.int (xs (6 * Q + 1)), .int (xs (6 * Q + 2)), .int (xs (6 * Q + 3)), .int (xs (6 * Q + 4)), .int (xs (6 * Q + 5))]) (rest := [.int r]) C dL_law_1378 (fun l => c_X5_copy l y 49 (xs (6 * Q + 1)) (xs (6 * Q + 2)) (xs (6 * Q + 3)) (xs (6 * Q + 4)) (xs (6 * Q + 5)) σ1 σ2 r e2) ⟨wm_L_166, wi_X5_copy, wv_X5_copy, wn_X5, wc_X5_copy, hdL_X5_copy⟩ ⟨rfl, rfl, Nat.le_of_ble_eq_true rfl, Nat.le_of_ble_eq_true rfl⟩ (Or.inl ⟨TX5, 22, by decide, rfl⟩) rfl (Nat.le_of_ble_eq_true rfl) ?_
  exact g_icmp_eq (pc := 1381) (tgt := 1517) C dL_law_1381 rfl (fun _ => kk σ2 hR2) (fun h => absurd rfl h)
theorem hdL_X4_load : yX4_load.cls ≠ "java/lang/invoke/MethodHandle" ∧ yX4_load.cls ≠ "java/lang/invoke/VarHandle" ∧ (parseMethodDescriptor yX4_load.desc).map (fun d => d.parameters.length) = some 1 := ⟨by decide, by decide, by decide +kernel⟩
theorem hdL_X5_load : yX5_load.cls ≠ "java/lang/invoke/MethodHandle" ∧ yX5_load.cls ≠ "java/lang/invoke/VarHandle" ∧ (parseMethodDescriptor yX5_load.desc).map (fun d => d.parameters.length) = some 1 := ⟨by decide, by decide, by decide +kernel⟩
theorem lc_37 (C : Cx x y A RL cL_law 4 room_1) (X : SX x A b L xs) (hQ : 6 * Q + 6 ≤ L) (hL : L ≤ 3072) (hR : Rel Q σ) (kk : ∀ σ2, Rel (Q + 1) σ2 → GW x y A 4 Z 1517 (LV y b Q) [] σ2) : GW x y A 4 Z 1386 (LV y b Q) [] σ := by
  obtain ⟨r, σ1, σ2, e1, e2, hR2⟩ := op_load (xs (6 * Q + 1)) Q σ (by omega) hR
  refine g_aload_n (pc := 1386) C dL_law_1386 rfl 2 rfl ?_
  refine g_aload_n (pc := 1387) C dL_law_1387 rfl 3 rfl ?_
  refine g_iload_n (pc := 1388) C dL_law_1388 rfl 0 rfl ?_
  refine g_iconst (v := 1) (pc := 1389) C dL_law_1389 (by decide) ?_
  refine g_iadd (pc := 1390) C dL_law_1390 ?_
  refine g_arg (pc := 1391) C X (j := 1) rfl (by omega) hL dL_law_1391 ?_
  refine g_callVi (pc := 1392) (k := 0) (As := [.int (xs (6 * Q + 1))]) (rest := []) C dL_law_1392 (fun l => c_X4_load l y 0 (xs (6 * Q + 1)) σ σ1 r e1) ⟨wm_L_167, wi_X4_load, wv_X4_load, wn_X4, wc_X4_load, hdL_X4_load⟩ ⟨rfl, rfl, Nat.le_of_ble_eq_true rfl, Nat.le_of_ble_eq_true rfl⟩ (Or.inl ⟨TX4, 7, by decide, rfl⟩) rfl (Nat.le_of_ble_eq_true rfl) ?_
  refine g_aload_n (pc := 1395) C dL_law_1395 rfl 1 rfl ?_
  refine g_aload_n (pc := 1396) C dL_law_1396 rfl 3 rfl ?_
  refine g_iload_n (pc := 1397) C dL_law_1397 rfl 0 rfl ?_
  refine g_iconst (v := 1) (pc := 1398) C dL_law_1398 (by decide) ?_
  refine g_iadd (pc := 1399) C dL_law_1399 ?_
  refine g_arg (pc := 1400) C X (j := 1) rfl (by omega) hL dL_law_1400 ?_
  refine g_callVi (pc := 1401) (k := 49) (As := [.int (xs (6 * Q + 1))]) (rest := [.int r]) C dL_law_1401 (fun l => c_X5_load l y 49 (xs (6 * Q + 1)) σ1 σ2 r e2) ⟨wm_L_170, wi_X5_load, wv_X5_load, wn_X5, wc_X5_load, hdL_X5_load⟩ ⟨rfl, rfl, Nat.le_of_ble_eq_true rfl, Nat.le_of_ble_eq_true rfl⟩ (Or.inl ⟨TX5, 22, by decide, rfl⟩) rfl (Nat.le_of_ble_eq_true rfl) ?_
  exact g_icmp_eq (pc := 1404) (tgt := 1517) C dL_law_1404 rfl (fun _ => kk σ2 hR2) (fun h => absurd rfl h)
theorem hdL_X4_judge : yX4_judge.cls ≠ "java/lang/invoke/MethodHandle" ∧ yX4_judge.cls ≠ "java/lang/invoke/VarHandle" ∧ (parseMethodDescriptor yX4_judge.desc).map (fun d => d.parameters.length) = some 1 := ⟨by decide, by decide, by decide +kernel⟩
theorem hdL_X5_judge : yX5_judge.cls ≠ "java/lang/invoke/MethodHandle" ∧ yX5_judge.cls ≠ "java/lang/invoke/VarHandle" ∧ (parseMethodDescriptor yX5_judge.desc).map (fun d => d.parameters.length) = some 1 := ⟨by decide, by decide, by decide +kernel⟩
theorem lc_38 (C : Cx x y A RL cL_law 4 room_1) (X : SX x A b L xs) (hQ : 6 * Q + 6 ≤ L) (hL : L ≤ 3072) (hR : Rel Q σ) (kk : ∀ σ2, Rel (Q + 1) σ2 → GW x y A 4 Z 1517 (LV y b Q) [] σ2) : GW x y A 4 Z 1409 (LV y b Q) [] σ := by
  obtain ⟨r, σ1, σ2, e1, e2, hR2⟩ := op_judge (xs (6 * Q + 1)) Q σ (by omega) hR
  refine g_aload_n (pc := 1409) C dL_law_1409 rfl 2 rfl ?_
  refine g_aload_n (pc := 1410) C dL_law_1410 rfl 3 rfl ?_
  refine g_iload_n (pc := 1411) C dL_law_1411 rfl 0 rfl ?_
  refine g_iconst (v := 1) (pc := 1412) C dL_law_1412 (by decide) ?_
  refine g_iadd (pc := 1413) C dL_law_1413 ?_
  refine g_arg (pc := 1414) C X (j := 1) rfl (by omega) hL dL_law_1414 ?_
  refine g_callVi (pc := 1415) (k := 0) (As := [.int (xs (6 * Q + 1))]) (rest := []) C dL_law_1415 (fun l => c_X4_judge l y 0 (xs (6 * Q + 1)) σ σ1 r e1) ⟨wm_L_171, wi_X4_judge, wv_X4_judge, wn_X4, wc_X4_judge, hdL_X4_judge⟩ ⟨rfl, rfl, Nat.le_of_ble_eq_true rfl, Nat.le_of_ble_eq_true rfl⟩ (Or.inl ⟨TX4, 7, by decide, rfl⟩) rfl (Nat.le_of_ble_eq_true rfl) ?_
  refine g_aload_n (pc := 1418) C dL_law_1418 rfl 1 rfl ?_
  refine g_aload_n (pc := 1419) C dL_law_1419 rfl 3 rfl ?_
  refine g_iload_n (pc := 1420) C dL_law_1420 rfl 0 rfl ?_
  refine g_iconst (v := 1) (pc := 1421) C dL_law_1421 (by decide) ?_
  refine g_iadd (pc := 1422) C dL_law_1422 ?_
  refine g_arg (pc := 1423) C X (j := 1) rfl (by omega) hL dL_law_1423 ?_
  refine g_callVi (pc := 1424) (k := 49) (As := [.int (xs (6 * Q + 1))]) (rest := [.int r]) C dL_law_1424 (fun l => c_X5_judge l y 49 (xs (6 * Q + 1)) σ1 σ2 r e2) ⟨wm_L_174, wi_X5_judge, wv_X5_judge, wn_X5, wc_X5_judge, hdL_X5_judge⟩ ⟨rfl, rfl, Nat.le_of_ble_eq_true rfl, Nat.le_of_ble_eq_true rfl⟩ (Or.inl ⟨TX5, 22, by decide, rfl⟩) rfl (Nat.le_of_ble_eq_true rfl) ?_
  exact g_icmp_eq (pc := 1427) (tgt := 1517) C dL_law_1427 rfl (fun _ => kk σ2 hR2) (fun h => absurd rfl h)
theorem hdL_X4_image : yX4_image.cls ≠ "java/lang/invoke/MethodHandle" ∧ yX4_image.cls ≠ "java/lang/invoke/VarHandle" ∧ (parseMethodDescriptor yX4_image.desc).map (fun d => d.parameters.length) = some 0 := ⟨by decide, by decide, by decide +kernel⟩
theorem hdL_X5_image : yX5_image.cls ≠ "java/lang/invoke/MethodHandle" ∧ yX5_image.cls ≠ "java/lang/invoke/VarHandle" ∧ (parseMethodDescriptor yX5_image.desc).map (fun d => d.parameters.length) = some 0 := ⟨by decide, by decide, by decide +kernel⟩
theorem lc_39 (C : Cx x y A RL cL_law 4 room_1) (X : SX x A b L xs) (hQ : 6 * Q + 6 ≤ L) (hL : L ≤ 3072) (hR : Rel Q σ) (kk : ∀ σ2, Rel (Q + 1) σ2 → GW x y A 4 Z 1517 (LV y b Q) [] σ2) : GW x y A 4 Z 1432 (LV y b Q) [] σ := by
  obtain ⟨r, σ1, σ2, e1, e2, hR2⟩ := op_image  Q σ (by omega) hR
  refine g_aload_n (pc := 1432) C dL_law_1432 rfl 2 rfl ?_
  refine g_callVi (pc := 1433) (k := 0) (As := []) (rest := []) C dL_law_1433 (fun l => c_X4_image l y 0  σ σ1 r e1) ⟨wm_L_175, wi_X4_image, wv_X4_image, wn_X4, wc_X4_image, hdL_X4_image⟩ ⟨rfl, rfl, Nat.le_of_ble_eq_true rfl, Nat.le_of_ble_eq_true rfl⟩ (Or.inl ⟨TX4, 7, by decide, rfl⟩) rfl (Nat.le_of_ble_eq_true rfl) ?_
  refine g_aload_n (pc := 1436) C dL_law_1436 rfl 1 rfl ?_
  refine g_callVi (pc := 1437) (k := 49) (As := []) (rest := [.int r]) C dL_law_1437 (fun l => c_X5_image l y 49  σ1 σ2 r e2) ⟨wm_L_178, wi_X5_image, wv_X5_image, wn_X5, wc_X5_image, hdL_X5_image⟩ ⟨rfl, rfl, Nat.le_of_ble_eq_true rfl, Nat.le_of_ble_eq_true rfl⟩ (Or.inl ⟨TX5, 22, by decide, rfl⟩) rfl (Nat.le_of_ble_eq_true rfl) ?_
  exact g_icmp_eq (pc := 1440) (tgt := 1517) C dL_law_1440 rfl (fun _ => kk σ2 hR2) (fun h => absurd rfl h)
theorem hdL_X4_undo : yX4_undo.cls ≠ "java/lang/invoke/MethodHandle" ∧ yX4_undo.cls ≠ "java/lang/invoke/VarHandle" ∧ (parseMethodDescriptor yX4_undo.desc).map (fun d => d.parameters.length) = some 0 := ⟨by decide, by decide, by decide +kernel⟩
theorem hdL_X5_undo : yX5_undo.cls ≠ "java/lang/invoke/MethodHandle" ∧ yX5_undo.cls ≠ "java/lang/invoke/VarHandle" ∧ (parseMethodDescriptor yX5_undo.desc).map (fun d => d.parameters.length) = some 0 := ⟨by decide, by decide, by decide +kernel⟩
theorem lc_40 (C : Cx x y A RL cL_law 4 room_1) (X : SX x A b L xs) (hQ : 6 * Q + 6 ≤ L) (hL : L ≤ 3072) (hR : Rel Q σ) (kk : ∀ σ2, Rel (Q + 1) σ2 → GW x y A 4 Z 1517 (LV y b Q) [] σ2) : GW x y A 4 Z 1445 (LV y b Q) [] σ := by
  obtain ⟨r, σ1, σ2, e1, e2, hR2⟩ := op_undo  Q σ (by omega) hR
  refine g_aload_n (pc := 1445) C dL_law_1445 rfl 2 rfl ?_
  refine g_callVi (pc := 1446) (k := 0) (As := []) (rest := []) C dL_law_1446 (fun l => c_X4_undo l y 0  σ σ1 r e1) ⟨wm_L_179, wi_X4_undo, wv_X4_undo, wn_X4, wc_X4_undo, hdL_X4_undo⟩ ⟨rfl, rfl, Nat.le_of_ble_eq_true rfl, Nat.le_of_ble_eq_true rfl⟩ (Or.inl ⟨TX4, 7, by decide, rfl⟩) rfl (Nat.le_of_ble_eq_true rfl) ?_
  refine g_aload_n (pc := 1449) C dL_law_1449 rfl 1 rfl ?_
  refine g_callVi (pc := 1450) (k := 49) (As := []) (rest := [.int r]) C dL_law_1450 (fun l => c_X5_undo l y 49  σ1 σ2 r e2) ⟨wm_L_182, wi_X5_undo, wv_X5_undo, wn_X5, wc_X5_undo, hdL_X5_undo⟩ ⟨rfl, rfl, Nat.le_of_ble_eq_true rfl, Nat.le_of_ble_eq_true rfl⟩ (Or.inl ⟨TX5, 22, by decide, rfl⟩) rfl (Nat.le_of_ble_eq_true rfl) ?_
  exact g_icmp_eq (pc := 1453) (tgt := 1517) C dL_law_1453 rfl (fun _ => kk σ2 hR2) (fun h => absurd rfl h)
theorem hdL_X4_tear : yX4_tear.cls ≠ "java/lang/invoke/MethodHandle" ∧ yX4_tear.cls ≠ "java/lang/invoke/VarHandle" ∧ (parseMethodDescriptor yX4_tear.desc).map (fun d => d.parameters.length) = some 0 := ⟨by decide, by decide, by decide +kernel⟩
theorem hdL_X5_tear : yX5_tear.cls ≠ "java/lang/invoke/MethodHandle" ∧ yX5_tear.cls ≠ "java/lang/invoke/VarHandle" ∧ (parseMethodDescriptor yX5_tear.desc).map (fun d => d.parameters.length) = some 0 := ⟨by decide, by decide, by decide +kernel⟩
theorem lc_41 (C : Cx x y A RL cL_law 4 room_1) (X : SX x A b L xs) (hQ : 6 * Q + 6 ≤ L) (hL : L ≤ 3072) (hR : Rel Q σ) (kk : ∀ σ2, Rel (Q + 1) σ2 → GW x y A 4 Z 1517 (LV y b Q) [] σ2) : GW x y A 4 Z 1458 (LV y b Q) [] σ := by
  obtain ⟨r, σ1, σ2, e1, e2, hR2⟩ := op_tear  Q σ (by omega) hR
  refine g_aload_n (pc := 1458) C dL_law_1458 rfl 2 rfl ?_
  refine g_callVi (pc := 1459) (k := 0) (As := []) (rest := []) C dL_law_1459 (fun l => c_X4_tear l y 0  σ σ1 r e1) ⟨wm_L_183, wi_X4_tear, wv_X4_tear, wn_X4, wc_X4_tear, hdL_X4_tear⟩ ⟨rfl, rfl, Nat.le_of_ble_eq_true rfl, Nat.le_of_ble_eq_true rfl⟩ (Or.inl ⟨TX4, 7, by decide, rfl⟩) rfl (Nat.le_of_ble_eq_true rfl) ?_
  refine g_aload_n (pc := 1462) C dL_law_1462 rfl 1 rfl ?_
  refine g_callVi (pc := 1463) (k := 49) (As := []) (rest := [.int r]) C dL_law_1463 (fun l => c_X5_tear l y 49  σ1 σ2 r e2) ⟨wm_L_186, wi_X5_tear, wv_X5_tear, wn_X5, wc_X5_tear, hdL_X5_tear⟩ ⟨rfl, rfl, Nat.le_of_ble_eq_true rfl, Nat.le_of_ble_eq_true rfl⟩ (Or.inl ⟨TX5, 22, by decide, rfl⟩) rfl (Nat.le_of_ble_eq_true rfl) ?_
  exact g_icmp_eq (pc := 1466) (tgt := 1517) C dL_law_1466 rfl (fun _ => kk σ2 hR2) (fun h => absurd rfl h)
theorem hdL_X4_count : yX4_count.cls ≠ "java/lang/invoke/MethodHandle" ∧ yX4_count.cls ≠ "java/lang/invoke/VarHandle" ∧ (parseMethodDescriptor yX4_count.desc).map (fun d => d.parameters.length) = some 1 := ⟨by decide, by decide, by decide +kernel⟩
theorem hdL_X5_count : yX5_count.cls ≠ "java/lang/invoke/MethodHandle" ∧ yX5_count.cls ≠ "java/lang/invoke/VarHandle" ∧ (parseMethodDescriptor yX5_count.desc).map (fun d => d.parameters.length) = some 1 := ⟨by decide, by decide, by decide +kernel⟩
theorem lc_42 (C : Cx x y A RL cL_law 4 room_1) (X : SX x A b L xs) (hQ : 6 * Q + 6 ≤ L) (hL : L ≤ 3072) (hR : Rel Q σ) (kk : ∀ σ2, Rel (Q + 1) σ2 → GW x y A 4 Z 1517 (LV y b Q) [] σ2) : GW x y A 4 Z 1471 (LV y b Q) [] σ := by
  obtain ⟨r, σ1, σ2, e1, e2, hR2⟩ := op_count (xs (6 * Q + 1)) Q σ (by omega) hR
  refine g_aload_n (pc := 1471) C dL_law_1471 rfl 2 rfl ?_
  refine g_aload_n (pc := 1472) C dL_law_1472 rfl 3 rfl ?_
  refine g_iload_n (pc := 1473) C dL_law_1473 rfl 0 rfl ?_
  refine g_iconst (v := 1) (pc := 1474) C dL_law_1474 (by decide) ?_
  refine g_iadd (pc := 1475) C dL_law_1475 ?_
  refine g_arg (pc := 1476) C X (j := 1) rfl (by omega) hL dL_law_1476 ?_
  refine g_callVi (pc := 1477) (k := 0) (As := [.int (xs (6 * Q + 1))]) (rest := []) C dL_law_1477 (fun l => c_X4_count l y 0 (xs (6 * Q + 1)) σ σ1 r e1) ⟨wm_L_187, wi_X4_count, wv_X4_count, wn_X4, wc_X4_count, hdL_X4_count⟩ ⟨rfl, rfl, Nat.le_of_ble_eq_true rfl, Nat.le_of_ble_eq_true rfl⟩ (Or.inl ⟨TX4, 7, by decide, rfl⟩) rfl (Nat.le_of_ble_eq_true rfl) ?_
  refine g_aload_n (pc := 1480) C dL_law_1480 rfl 1 rfl ?_
  refine g_aload_n (pc := 1481) C dL_law_1481 rfl 3 rfl ?_
  refine g_iload_n (pc := 1482) C dL_law_1482 rfl 0 rfl ?_
  refine g_iconst (v := 1) (pc := 1483) C dL_law_1483 (by decide) ?_
  refine g_iadd (pc := 1484) C dL_law_1484 ?_
  refine g_arg (pc := 1485) C X (j := 1) rfl (by omega) hL dL_law_1485 ?_
  refine g_callVi (pc := 1486) (k := 49) (As := [.int (xs (6 * Q + 1))]) (rest := [.int r]) C dL_law_1486 (fun l => c_X5_count l y 49 (xs (6 * Q + 1)) σ1 σ2 r e2) ⟨wm_L_190, wi_X5_count, wv_X5_count, wn_X5, wc_X5_count, hdL_X5_count⟩ ⟨rfl, rfl, Nat.le_of_ble_eq_true rfl, Nat.le_of_ble_eq_true rfl⟩ (Or.inl ⟨TX5, 22, by decide, rfl⟩) rfl (Nat.le_of_ble_eq_true rfl) ?_
  exact g_icmp_eq (pc := 1489) (tgt := 1517) C dL_law_1489 rfl (fun _ => kk σ2 hR2) (fun h => absurd rfl h)
theorem hdL_X4_status : yX4_status.cls ≠ "java/lang/invoke/MethodHandle" ∧ yX4_status.cls ≠ "java/lang/invoke/VarHandle" ∧ (parseMethodDescriptor yX4_status.desc).map (fun d => d.parameters.length) = some 1 := ⟨by decide, by decide, by decide +kernel⟩
theorem hdL_X5_status : yX5_status.cls ≠ "java/lang/invoke/MethodHandle" ∧ yX5_status.cls ≠ "java/lang/invoke/VarHandle" ∧ (parseMethodDescriptor yX5_status.desc).map (fun d => d.parameters.length) = some 1 := ⟨by decide, by decide, by decide +kernel⟩
theorem lc_43 (C : Cx x y A RL cL_law 4 room_1) (X : SX x A b L xs) (hQ : 6 * Q + 6 ≤ L) (hL : L ≤ 3072) (hR : Rel Q σ) (kk : ∀ σ2, Rel (Q + 1) σ2 → GW x y A 4 Z 1517 (LV y b Q) [] σ2) : GW x y A 4 Z 1494 (LV y b Q) [] σ := by
  obtain ⟨r, σ1, σ2, e1, e2, hR2⟩ := op_status (xs (6 * Q + 1)) Q σ (by omega) hR
  refine g_aload_n (pc := 1494) C dL_law_1494 rfl 2 rfl ?_
  refine g_aload_n (pc := 1495) C dL_law_1495 rfl 3 rfl ?_
  refine g_iload_n (pc := 1496) C dL_law_1496 rfl 0 rfl ?_
  refine g_iconst (v := 1) (pc := 1497) C dL_law_1497 (by decide) ?_
  refine g_iadd (pc := 1498) C dL_law_1498 ?_
  refine g_arg (pc := 1499) C X (j := 1) rfl (by omega) hL dL_law_1499 ?_
  refine g_callVi (pc := 1500) (k := 0) (As := [.int (xs (6 * Q + 1))]) (rest := []) C dL_law_1500 (fun l => c_X4_status l y 0 (xs (6 * Q + 1)) σ σ1 r e1) ⟨wm_L_191, wi_X4_status, wv_X4_status, wn_X4, wc_X4_status, hdL_X4_status⟩ ⟨rfl, rfl, Nat.le_of_ble_eq_true rfl, Nat.le_of_ble_eq_true rfl⟩ (Or.inl ⟨TX4, 7, by decide, rfl⟩) rfl (Nat.le_of_ble_eq_true rfl) ?_
  refine g_aload_n (pc := 1503) C dL_law_1503 rfl 1 rfl ?_
  refine g_aload_n (pc := 1504) C dL_law_1504 rfl 3 rfl ?_
  refine g_iload_n (pc := 1505) C dL_law_1505 rfl 0 rfl ?_
  refine g_iconst (v := 1) (pc := 1506) C dL_law_1506 (by decide) ?_
  refine g_iadd (pc := 1507) C dL_law_1507 ?_
  refine g_arg (pc := 1508) C X (j := 1) rfl (by omega) hL dL_law_1508 ?_
  refine g_callVi (pc := 1509) (k := 49) (As := [.int (xs (6 * Q + 1))]) (rest := [.int r]) C dL_law_1509 (fun l => c_X5_status l y 49 (xs (6 * Q + 1)) σ1 σ2 r e2) ⟨wm_L_194, wi_X5_status, wv_X5_status, wn_X5, wc_X5_status, hdL_X5_status⟩ ⟨rfl, rfl, Nat.le_of_ble_eq_true rfl, Nat.le_of_ble_eq_true rfl⟩ (Or.inl ⟨TX5, 22, by decide, rfl⟩) rfl (Nat.le_of_ble_eq_true rfl) ?_
  exact g_icmp_eq (pc := 1512) (tgt := 1517) C dL_law_1512 rfl (fun _ => kk σ2 hR2) (fun h => absurd rfl h)

theorem law_case (C : Cx x y A RL cL_law 4 room_1) (X : SX x A b L xs) (hQ : 6 * Q + 6 ≤ L) (hL : L ≤ 3072) (hR : Rel Q σ) (kk : ∀ σ2, Rel (Q + 1) σ2 → GW x y A 4 Z 1517 (LV y b Q) [] σ2) (u : Int32) : GW x y A 4 Z 33 (LV y b Q) [.int u] σ := by
  by_cases h : u.toInt < 0 ∨ 43 < u.toInt
  · exact g_tabOut (pc := 33) (tgt := 1517) C dL_law_33 h rfl (kk σ (Rel_mono hR (by omega)))
  · obtain ⟨c, hc, rfl⟩ : ∃ c, c < 44 ∧ u = nI c := by
      obtain ⟨n, hn, rfl⟩ := nI_of (x := u) (fun q => h (Or.inl (by have := Int32.lt_iff_toInt_lt.mp q; exact this)))
      rw [nI_toInt hn] at h
      exact ⟨n, by omega, rfl⟩
    rcases (show c = 0 ∨ c = 1 ∨ c = 2 ∨ c = 3 ∨ c = 4 ∨ c = 5 ∨ c = 6 ∨ c = 7 ∨ c = 8 ∨ c = 9 ∨ c = 10 ∨ c = 11 ∨ c = 12 ∨ c = 13 ∨ c = 14 ∨ c = 15 ∨ c = 16 ∨ c = 17 ∨ c = 18 ∨ c = 19 ∨ c = 20 ∨ c = 21 ∨ c = 22 ∨ c = 23 ∨ c = 24 ∨ c = 25 ∨ c = 26 ∨ c = 27 ∨ c = 28 ∨ c = 29 ∨ c = 30 ∨ c = 31 ∨ c = 32 ∨ c = 33 ∨ c = 34 ∨ c = 35 ∨ c = 36 ∨ c = 37 ∨ c = 38 ∨ c = 39 ∨ c = 40 ∨ c = 41 ∨ c = 42 ∨ c = 43 by omega) with rfl | rfl | rfl | rfl | rfl | rfl | rfl | rfl | rfl | rfl | rfl | rfl | rfl | rfl | rfl | rfl | rfl | rfl | rfl | rfl | rfl | rfl | rfl | rfl | rfl | rfl | rfl | rfl | rfl | rfl | rfl | rfl | rfl | rfl | rfl | rfl | rfl | rfl | rfl | rfl | rfl | rfl | rfl | rfl
    · exact g_tabIn (pc := 33) (v := nI 0) (tgt := 224) C dL_law_33 (by decide) (by decide) rfl rfl rfl (lc_0 C X hQ hL hR kk)
    · exact g_tabIn (pc := 33) (v := nI 1) (tgt := 257) C dL_law_33 (by decide) (by decide) rfl rfl rfl (lc_1 C X hQ hL hR kk)
    · exact g_tabIn (pc := 33) (v := nI 2) (tgt := 280) C dL_law_33 (by decide) (by decide) rfl rfl rfl (lc_2 C X hQ hL hR kk)
    · exact g_tabIn (pc := 33) (v := nI 3) (tgt := 313) C dL_law_33 (by decide) (by decide) rfl rfl rfl (lc_3 C X hQ hL hR kk)
    · exact g_tabIn (pc := 33) (v := nI 4) (tgt := 336) C dL_law_33 (by decide) (by decide) rfl rfl rfl (lc_4 C X hQ hL hR kk)
    · exact g_tabIn (pc := 33) (v := nI 5) (tgt := 369) C dL_law_33 (by decide) (by decide) rfl rfl rfl (lc_5 C X hQ hL hR kk)
    · exact g_tabIn (pc := 33) (v := nI 6) (tgt := 402) C dL_law_33 (by decide) (by decide) rfl rfl rfl (lc_6 C X hQ hL hR kk)
    · exact g_tabIn (pc := 33) (v := nI 7) (tgt := 445) C dL_law_33 (by decide) (by decide) rfl rfl rfl (lc_7 C X hQ hL hR kk)
    · exact g_tabIn (pc := 33) (v := nI 8) (tgt := 478) C dL_law_33 (by decide) (by decide) rfl rfl rfl (lc_8 C X hQ hL hR kk)
    · exact g_tabIn (pc := 33) (v := nI 9) (tgt := 501) C dL_law_33 (by decide) (by decide) rfl rfl rfl (lc_9 C X hQ hL hR kk)
    · exact g_tabIn (pc := 33) (v := nI 10) (tgt := 524) C dL_law_33 (by decide) (by decide) rfl rfl rfl (lc_10 C X hQ hL hR kk)
    · exact g_tabIn (pc := 33) (v := nI 11) (tgt := 547) C dL_law_33 (by decide) (by decide) rfl rfl rfl (lc_11 C X hQ hL hR kk)
    · exact g_tabIn (pc := 33) (v := nI 12) (tgt := 590) C dL_law_33 (by decide) (by decide) rfl rfl rfl (lc_12 C X hQ hL hR kk)
    · exact g_tabIn (pc := 33) (v := nI 13) (tgt := 623) C dL_law_33 (by decide) (by decide) rfl rfl rfl (lc_13 C X hQ hL hR kk)
    · exact g_tabIn (pc := 33) (v := nI 14) (tgt := 656) C dL_law_33 (by decide) (by decide) rfl rfl rfl (lc_14 C X hQ hL hR kk)
    · exact g_tabIn (pc := 33) (v := nI 15) (tgt := 679) C dL_law_33 (by decide) (by decide) rfl rfl rfl (lc_15 C X hQ hL hR kk)
    · exact g_tabIn (pc := 33) (v := nI 16) (tgt := 692) C dL_law_33 (by decide) (by decide) rfl rfl rfl (lc_16 C X hQ hL hR kk)
    · exact g_tabIn (pc := 33) (v := nI 17) (tgt := 715) C dL_law_33 (by decide) (by decide) rfl rfl rfl (lc_17 C X hQ hL hR kk)
    · exact g_tabIn (pc := 33) (v := nI 18) (tgt := 748) C dL_law_33 (by decide) (by decide) rfl rfl rfl (lc_18 C X hQ hL hR kk)
    · exact g_tabIn (pc := 33) (v := nI 19) (tgt := 781) C dL_law_33 (by decide) (by decide) rfl rfl rfl (lc_19 C X hQ hL hR kk)
    · exact g_tabIn (pc := 33) (v := nI 20) (tgt := 814) C dL_law_33 (by decide) (by decide) rfl rfl rfl (lc_20 C X hQ hL hR kk)
    · exact g_tabIn (pc := 33) (v := nI 21) (tgt := 847) C dL_law_33 (by decide) (by decide) rfl rfl rfl (lc_21 C X hQ hL hR kk)
    · exact g_tabIn (pc := 33) (v := nI 22) (tgt := 870) C dL_law_33 (by decide) (by decide) rfl rfl rfl (lc_22 C X hQ hL hR kk)
    · exact g_tabIn (pc := 33) (v := nI 23) (tgt := 913) C dL_law_33 (by decide) (by decide) rfl rfl rfl (lc_23 C X hQ hL hR kk)
    · exact g_tabIn (pc := 33) (v := nI 24) (tgt := 946) C dL_law_33 (by decide) (by decide) rfl rfl rfl (lc_24 C X hQ hL hR kk)
    · exact g_tabIn (pc := 33) (v := nI 25) (tgt := 979) C dL_law_33 (by decide) (by decide) rfl rfl rfl (lc_25 C X hQ hL hR kk)
    · exact g_tabIn (pc := 33) (v := nI 26) (tgt := 1012) C dL_law_33 (by decide) (by decide) rfl rfl rfl (lc_26 C X hQ hL hR kk)
    · exact g_tabIn (pc := 33) (v := nI 27) (tgt := 1035) C dL_law_33 (by decide) (by decide) rfl rfl rfl (lc_27 C X hQ hL hR kk)
    · exact g_tabIn (pc := 33) (v := nI 28) (tgt := 1089) C dL_law_33 (by decide) (by decide) rfl rfl rfl (lc_28 C X hQ hL hR kk)
    · exact g_tabIn (pc := 33) (v := nI 29) (tgt := 1112) C dL_law_33 (by decide) (by decide) rfl rfl rfl (lc_29 C X hQ hL hR kk)
    · exact g_tabIn (pc := 33) (v := nI 30) (tgt := 1145) C dL_law_33 (by decide) (by decide) rfl rfl rfl (lc_30 C X hQ hL hR kk)
    · exact g_tabIn (pc := 33) (v := nI 31) (tgt := 1158) C dL_law_33 (by decide) (by decide) rfl rfl rfl (lc_31 C X hQ hL hR kk)
    · exact g_tabIn (pc := 33) (v := nI 32) (tgt := 1171) C dL_law_33 (by decide) (by decide) rfl rfl rfl (lc_32 C X hQ hL hR kk)
    · exact g_tabIn (pc := 33) (v := nI 33) (tgt := 1204) C dL_law_33 (by decide) (by decide) rfl rfl rfl (lc_33 C X hQ hL hR kk)
    · exact g_tabIn (pc := 33) (v := nI 34) (tgt := 1237) C dL_law_33 (by decide) (by decide) rfl rfl rfl (lc_34 C X hQ hL hR kk)
    · exact g_tabIn (pc := 33) (v := nI 35) (tgt := 1280) C dL_law_33 (by decide) (by decide) rfl rfl rfl (lc_35 C X hQ hL hR kk)
    · exact g_tabIn (pc := 33) (v := nI 36) (tgt := 1323) C dL_law_33 (by decide) (by decide) rfl rfl rfl (lc_36 C X hQ hL hR kk)
    · exact g_tabIn (pc := 33) (v := nI 37) (tgt := 1386) C dL_law_33 (by decide) (by decide) rfl rfl rfl (lc_37 C X hQ hL hR kk)
    · exact g_tabIn (pc := 33) (v := nI 38) (tgt := 1409) C dL_law_33 (by decide) (by decide) rfl rfl rfl (lc_38 C X hQ hL hR kk)
    · exact g_tabIn (pc := 33) (v := nI 39) (tgt := 1432) C dL_law_33 (by decide) (by decide) rfl rfl rfl (lc_39 C X hQ hL hR kk)
    · exact g_tabIn (pc := 33) (v := nI 40) (tgt := 1445) C dL_law_33 (by decide) (by decide) rfl rfl rfl (lc_40 C X hQ hL hR kk)
    · exact g_tabIn (pc := 33) (v := nI 41) (tgt := 1458) C dL_law_33 (by decide) (by decide) rfl rfl rfl (lc_41 C X hQ hL hR kk)
    · exact g_tabIn (pc := 33) (v := nI 42) (tgt := 1471) C dL_law_33 (by decide) (by decide) rfl rfl rfl (lc_42 C X hQ hL hR kk)
    · exact g_tabIn (pc := 33) (v := nI 43) (tgt := 1494) C dL_law_33 (by decide) (by decide) rfl rfl rfl (lc_43 C X hQ hL hR kk)
end LAWC
