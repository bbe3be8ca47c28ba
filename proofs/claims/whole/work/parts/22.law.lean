/-! the law, of the small machine: out of its forty pairs of calls (by program, wip/whole/gen22.py) -/
/-- the class's call, then the reference's, with the same arguments: the same answer, and what holds between calls holds again -/
def ro_eqI (Inv : ro_Mm → Prop) (X : ro_Sx) (yc ym : Nat) (as : List Value) : Prop := ∀ M, Inv M → ro_cwp X 2000 yc (.ref 4 :: as) M (fun v1 M1 => ro_lay M1 ∧ ∃ r : Int32, v1 = some (.int r) ∧ ro_cwp X 2000 ym (.ref 163 :: as) M1 (fun v2 M2 => v2 = some (.int r) ∧ Inv M2))
def ro_eqJ (Inv : ro_Mm → Prop) (X : ro_Sx) (yc ym : Nat) (as : List Value) : Prop := ∀ M, Inv M → ro_cwp X 2000 yc (.ref 4 :: as) M (fun v1 M1 => ro_lay M1 ∧ ∃ r : Int64, v1 = some (.long r) ∧ ro_cwp X 2000 ym (.ref 163 :: as) M1 (fun v2 M2 => v2 = some (.long r) ∧ Inv M2))
def ro_put (u v : Int32) : Int64 := (u.toInt64 <<< ((32 : Int32).toInt64 &&& 63)) ||| (v.toInt64 &&& 4294967295)
theorem ro_ni (a c : Nat) {k : Int32} (hk : nI c = k) : nI a + k = nI (a + c) := by rw [← hk]; exact nI_add a c
theorem ro_cmp0 (x : Int64) : lg_cmp x x = 0 := by
  unfold lg_cmp
  rw [if_neg (by simp [Int64.lt_irrefl]), if_pos rfl]
section LAW
variable {X : ro_Sx} {Inv : ro_Mm → Prop} {n : Nat} {M : ro_Mm}
/-- a script's int -/
theorem rs_scr {post : ro_Po} {pc q : Nat} {lv : ro_Lv} {st : List Value} {cs : Nat × Nat} {a b c : Nat} (hi : ro_ix 307 pc = some (pc, .iaload, a, b)) (hp : pc + 1 = q) (hn : c < X.1) (hX : X.1 ≤ 3072) (h : ro_w X 2000 307 post q lv (.int (X.2 c) :: st) M cs) : ro_w X 2000 307 post pc lv (.int (nI c) :: .ref 0 :: st) M cs :=
  rs_iald0 hi hp (by decide) (vp_in_nI hn (show X.1 < 2 ^ 31 by omega)) (by rw [nI_clamp (by omega)]; rfl) h
/-- case 0: person -/
theorem lw_c0 (hL : ∀ M, Inv M → ro_lay M) (hM : Inv M) (hX : X.1 ≤ 3072) (hn : 6 * n + 6 ≤ X.1) (heq : ro_eqI Inv X 12 194 [.int (X.2 (6 * n + 1))]) (hnext : ∀ M2, Inv M2 → ro_w X 2000 307 (fun v _ => v = some (.int 1)) 1524 [(3, .int (nI (6 * n))), (2, .ref 163), (1, .ref 4), (0, .ref 0)] [] M2 (190, 79052)) : ro_w X 2000 307 (fun v _ => v = some (.int 1)) 208 [(3, .int (nI (6 * n))), (2, .ref 163), (1, .ref 4), (0, .ref 0)] [] M (190, 79052) := by
  refine rs_aload_n ri_307_208 rfl rfl ?_
  refine rs_aload_n ri_307_209 rfl rfl ?_
  refine rs_iload_n ri_307_210 rfl rfl ?_
  refine rs_iconst (v := (1 : Int32)) ri_307_211 rfl (by decide) ?_
  refine rs_iadd (r := nI (6 * n + 1)) ri_307_212 rfl (ro_ni (6 * n) 1 rfl) ?_
  refine rs_scr ri_307_213 rfl (by omega) hX ?_
  refine rs_virt (As := [.int (X.2 (6 * n + 1))]) (r := []) ri_307_214 rfl (by decide) rm_12.2.2.2 rm_12.2.2.1 rfl rfl rfl (by decide) (ro_kf (kd_4 (hL M hM))) (Nat.le_of_ble_eq_true rfl) (by decide) (by decide) (heq M hM) ?_
  rintro _ M1 ⟨hL1, r, e1, hs2⟩
  rw [e1]
  show ro_w X _ 307 _ 217 [(3, .int (nI (6 * n))), (2, .ref 163), (1, .ref 4), (0, .ref 0)] [.int r] M1 (190, 79052)
  refine rs_aload_n ri_307_217 rfl rfl ?_
  refine rs_aload_n ri_307_218 rfl rfl ?_
  refine rs_iload_n ri_307_219 rfl rfl ?_
  refine rs_iconst (v := (1 : Int32)) ri_307_220 rfl (by decide) ?_
  refine rs_iadd (r := nI (6 * n + 1)) ri_307_221 rfl (ro_ni (6 * n) 1 rfl) ?_
  refine rs_scr ri_307_222 rfl (by omega) hX ?_
  refine rs_virt (As := [.int (X.2 (6 * n + 1))]) (r := [.int r]) ri_307_223 rfl (by decide) rm_194.2.2.2 rm_194.2.2.1 rfl rfl rfl (by decide) (ro_kf (kd_163 hL1)) (Nat.le_of_ble_eq_true rfl) (by decide) (by decide) hs2 ?_
  rintro _ M2 ⟨e2, hM2⟩
  rw [e2]
  show ro_w X _ 307 _ 226 [(3, .int (nI (6 * n))), (2, .ref 163), (1, .ref 4), (0, .ref 0)] [.int r, .int r] M2 (190, 79052)
  exact rs_icmp_eq (t := 1524) ri_307_226 rfl rfl (fun _ => hnext M2 hM2) (fun h => absurd rfl h)
/-- case 1: people -/
theorem lw_c1 (hL : ∀ M, Inv M → ro_lay M) (hM : Inv M) (hX : X.1 ≤ 3072) (hn : 6 * n + 6 ≤ X.1) (heq : ro_eqI Inv X 19 197 [.int (X.2 (6 * n + 1)), .int (X.2 (6 * n + 2)), .int (X.2 (6 * n + 3))]) (hnext : ∀ M2, Inv M2 → ro_w X 2000 307 (fun v _ => v = some (.int 1)) 1524 [(3, .int (nI (6 * n))), (2, .ref 163), (1, .ref 4), (0, .ref 0)] [] M2 (190, 79052)) : ro_w X 2000 307 (fun v _ => v = some (.int 1)) 231 [(3, .int (nI (6 * n))), (2, .ref 163), (1, .ref 4), (0, .ref 0)] [] M (190, 79052) := by
  refine rs_aload_n ri_307_231 rfl rfl ?_
  refine rs_aload_n ri_307_232 rfl rfl ?_
  refine rs_iload_n ri_307_233 rfl rfl ?_
  refine rs_iconst (v := (1 : Int32)) ri_307_234 rfl (by decide) ?_
  refine rs_iadd (r := nI (6 * n + 1)) ri_307_235 rfl (ro_ni (6 * n) 1 rfl) ?_
  refine rs_scr ri_307_236 rfl (by omega) hX ?_
  refine rs_aload_n ri_307_237 rfl rfl ?_
  refine rs_iload_n ri_307_238 rfl rfl ?_
  refine rs_iconst (v := (2 : Int32)) ri_307_239 rfl (by decide) ?_
  refine rs_iadd (r := nI (6 * n + 2)) ri_307_240 rfl (ro_ni (6 * n) 2 rfl) ?_
  refine rs_scr ri_307_241 rfl (by omega) hX ?_
  refine rs_aload_n ri_307_242 rfl rfl ?_
  refine rs_iload_n ri_307_243 rfl rfl ?_
  refine rs_iconst (v := (3 : Int32)) ri_307_244 rfl (by decide) ?_
  refine rs_iadd (r := nI (6 * n + 3)) ri_307_245 rfl (ro_ni (6 * n) 3 rfl) ?_
  refine rs_scr ri_307_246 rfl (by omega) hX ?_
  refine rs_virt (As := [.int (X.2 (6 * n + 1)), .int (X.2 (6 * n + 2)), .int (X.2 (6 * n + 3))]) (r := []) ri_307_247 rfl (by decide) rm_19.2.2.2 rm_19.2.2.1 rfl rfl rfl (by decide) (ro_kf (kd_4 (hL M hM))) (Nat.le_of_ble_eq_true rfl) (by decide) (by decide) (heq M hM) ?_
  rintro _ M1 ⟨hL1, r, e1, hs2⟩
  rw [e1]
  show ro_w X _ 307 _ 250 [(3, .int (nI (6 * n))), (2, .ref 163), (1, .ref 4), (0, .ref 0)] [.int r] M1 (190, 79052)
  refine rs_aload_n ri_307_250 rfl rfl ?_
  refine rs_aload_n ri_307_251 rfl rfl ?_
  refine rs_iload_n ri_307_252 rfl rfl ?_
  refine rs_iconst (v := (1 : Int32)) ri_307_253 rfl (by decide) ?_
  refine rs_iadd (r := nI (6 * n + 1)) ri_307_254 rfl (ro_ni (6 * n) 1 rfl) ?_
  refine rs_scr ri_307_255 rfl (by omega) hX ?_
  refine rs_aload_n ri_307_256 rfl rfl ?_
  refine rs_iload_n ri_307_257 rfl rfl ?_
  refine rs_iconst (v := (2 : Int32)) ri_307_258 rfl (by decide) ?_
  refine rs_iadd (r := nI (6 * n + 2)) ri_307_259 rfl (ro_ni (6 * n) 2 rfl) ?_
  refine rs_scr ri_307_260 rfl (by omega) hX ?_
  refine rs_aload_n ri_307_261 rfl rfl ?_
  refine rs_iload_n ri_307_262 rfl rfl ?_
  refine rs_iconst (v := (3 : Int32)) ri_307_263 rfl (by decide) ?_
  refine rs_iadd (r := nI (6 * n + 3)) ri_307_264 rfl (ro_ni (6 * n) 3 rfl) ?_
  refine rs_scr ri_307_265 rfl (by omega) hX ?_
  refine rs_virt (As := [.int (X.2 (6 * n + 1)), .int (X.2 (6 * n + 2)), .int (X.2 (6 * n + 3))]) (r := [.int r]) ri_307_266 rfl (by decide) rm_197.2.2.2 rm_197.2.2.1 rfl rfl rfl (by decide) (ro_kf (kd_163 hL1)) (Nat.le_of_ble_eq_true rfl) (by decide) (by decide) hs2 ?_
  rintro _ M2 ⟨e2, hM2⟩
  rw [e2]
  show ro_w X _ 307 _ 269 [(3, .int (nI (6 * n))), (2, .ref 163), (1, .ref 4), (0, .ref 0)] [.int r, .int r] M2 (190, 79052)
  exact rs_icmp_eq (t := 1524) ri_307_269 rfl rfl (fun _ => hnext M2 hM2) (fun h => absurd rfl h)
/-- case 2: mend -/
theorem lw_c2 (hL : ∀ M, Inv M → ro_lay M) (hM : Inv M) (hX : X.1 ≤ 3072) (hn : 6 * n + 6 ≤ X.1) (heq : ro_eqI Inv X 27 202 [.int (X.2 (6 * n + 1)), .int (X.2 (6 * n + 2)), .int (X.2 (6 * n + 3))]) (hnext : ∀ M2, Inv M2 → ro_w X 2000 307 (fun v _ => v = some (.int 1)) 1524 [(3, .int (nI (6 * n))), (2, .ref 163), (1, .ref 4), (0, .ref 0)] [] M2 (190, 79052)) : ro_w X 2000 307 (fun v _ => v = some (.int 1)) 274 [(3, .int (nI (6 * n))), (2, .ref 163), (1, .ref 4), (0, .ref 0)] [] M (190, 79052) := by
  refine rs_aload_n ri_307_274 rfl rfl ?_
  refine rs_aload_n ri_307_275 rfl rfl ?_
  refine rs_iload_n ri_307_276 rfl rfl ?_
  refine rs_iconst (v := (1 : Int32)) ri_307_277 rfl (by decide) ?_
  refine rs_iadd (r := nI (6 * n + 1)) ri_307_278 rfl (ro_ni (6 * n) 1 rfl) ?_
  refine rs_scr ri_307_279 rfl (by omega) hX ?_
  refine rs_aload_n ri_307_280 rfl rfl ?_
  refine rs_iload_n ri_307_281 rfl rfl ?_
  refine rs_iconst (v := (2 : Int32)) ri_307_282 rfl (by decide) ?_
  refine rs_iadd (r := nI (6 * n + 2)) ri_307_283 rfl (ro_ni (6 * n) 2 rfl) ?_
  refine rs_scr ri_307_284 rfl (by omega) hX ?_
  refine rs_aload_n ri_307_285 rfl rfl ?_
  refine rs_iload_n ri_307_286 rfl rfl ?_
  refine rs_iconst (v := (3 : Int32)) ri_307_287 rfl (by decide) ?_
  refine rs_iadd (r := nI (6 * n + 3)) ri_307_288 rfl (ro_ni (6 * n) 3 rfl) ?_
  refine rs_scr ri_307_289 rfl (by omega) hX ?_
  refine rs_virt (As := [.int (X.2 (6 * n + 1)), .int (X.2 (6 * n + 2)), .int (X.2 (6 * n + 3))]) (r := []) ri_307_290 rfl (by decide) rm_27.2.2.2 rm_27.2.2.1 rfl rfl rfl (by decide) (ro_kf (kd_4 (hL M hM))) (Nat.le_of_ble_eq_true rfl) (by decide) (by decide) (heq M hM) ?_
  rintro _ M1 ⟨hL1, r, e1, hs2⟩
  rw [e1]
  show ro_w X _ 307 _ 293 [(3, .int (nI (6 * n))), (2, .ref 163), (1, .ref 4), (0, .ref 0)] [.int r] M1 (190, 79052)
  refine rs_aload_n ri_307_293 rfl rfl ?_
  refine rs_aload_n ri_307_294 rfl rfl ?_
  refine rs_iload_n ri_307_295 rfl rfl ?_
  refine rs_iconst (v := (1 : Int32)) ri_307_296 rfl (by decide) ?_
  refine rs_iadd (r := nI (6 * n + 1)) ri_307_297 rfl (ro_ni (6 * n) 1 rfl) ?_
  refine rs_scr ri_307_298 rfl (by omega) hX ?_
  refine rs_aload_n ri_307_299 rfl rfl ?_
  refine rs_iload_n ri_307_300 rfl rfl ?_
  refine rs_iconst (v := (2 : Int32)) ri_307_301 rfl (by decide) ?_
  refine rs_iadd (r := nI (6 * n + 2)) ri_307_302 rfl (ro_ni (6 * n) 2 rfl) ?_
  refine rs_scr ri_307_303 rfl (by omega) hX ?_
  refine rs_aload_n ri_307_304 rfl rfl ?_
  refine rs_iload_n ri_307_305 rfl rfl ?_
  refine rs_iconst (v := (3 : Int32)) ri_307_306 rfl (by decide) ?_
  refine rs_iadd (r := nI (6 * n + 3)) ri_307_307 rfl (ro_ni (6 * n) 3 rfl) ?_
  refine rs_scr ri_307_308 rfl (by omega) hX ?_
  refine rs_virt (As := [.int (X.2 (6 * n + 1)), .int (X.2 (6 * n + 2)), .int (X.2 (6 * n + 3))]) (r := [.int r]) ri_307_309 rfl (by decide) rm_202.2.2.2 rm_202.2.2.1 rfl rfl rfl (by decide) (ro_kf (kd_163 hL1)) (Nat.le_of_ble_eq_true rfl) (by decide) (by decide) hs2 ?_
  rintro _ M2 ⟨e2, hM2⟩
  rw [e2]
  show ro_w X _ 307 _ 312 [(3, .int (nI (6 * n))), (2, .ref 163), (1, .ref 4), (0, .ref 0)] [.int r, .int r] M2 (190, 79052)
  exact rs_icmp_eq (t := 1524) ri_307_312 rfl rfl (fun _ => hnext M2 hM2) (fun h => absurd rfl h)
/-- case 3: of -/
theorem lw_c3 (hL : ∀ M, Inv M → ro_lay M) (hM : Inv M) (hX : X.1 ≤ 3072) (hn : 6 * n + 6 ≤ X.1) (heq : ro_eqI Inv X 36 208 [.int (X.2 (6 * n + 1)), .int (X.2 (6 * n + 2))]) (hnext : ∀ M2, Inv M2 → ro_w X 2000 307 (fun v _ => v = some (.int 1)) 1524 [(3, .int (nI (6 * n))), (2, .ref 163), (1, .ref 4), (0, .ref 0)] [] M2 (190, 79052)) : ro_w X 2000 307 (fun v _ => v = some (.int 1)) 317 [(3, .int (nI (6 * n))), (2, .ref 163), (1, .ref 4), (0, .ref 0)] [] M (190, 79052) := by
  refine rs_aload_n ri_307_317 rfl rfl ?_
  refine rs_aload_n ri_307_318 rfl rfl ?_
  refine rs_iload_n ri_307_319 rfl rfl ?_
  refine rs_iconst (v := (1 : Int32)) ri_307_320 rfl (by decide) ?_
  refine rs_iadd (r := nI (6 * n + 1)) ri_307_321 rfl (ro_ni (6 * n) 1 rfl) ?_
  refine rs_scr ri_307_322 rfl (by omega) hX ?_
  refine rs_aload_n ri_307_323 rfl rfl ?_
  refine rs_iload_n ri_307_324 rfl rfl ?_
  refine rs_iconst (v := (2 : Int32)) ri_307_325 rfl (by decide) ?_
  refine rs_iadd (r := nI (6 * n + 2)) ri_307_326 rfl (ro_ni (6 * n) 2 rfl) ?_
  refine rs_scr ri_307_327 rfl (by omega) hX ?_
  refine rs_virt (As := [.int (X.2 (6 * n + 1)), .int (X.2 (6 * n + 2))]) (r := []) ri_307_328 rfl (by decide) rm_36.2.2.2 rm_36.2.2.1 rfl rfl rfl (by decide) (ro_kf (kd_4 (hL M hM))) (Nat.le_of_ble_eq_true rfl) (by decide) (by decide) (heq M hM) ?_
  rintro _ M1 ⟨hL1, r, e1, hs2⟩
  rw [e1]
  show ro_w X _ 307 _ 331 [(3, .int (nI (6 * n))), (2, .ref 163), (1, .ref 4), (0, .ref 0)] [.int r] M1 (190, 79052)
  refine rs_aload_n ri_307_331 rfl rfl ?_
  refine rs_aload_n ri_307_332 rfl rfl ?_
  refine rs_iload_n ri_307_333 rfl rfl ?_
  refine rs_iconst (v := (1 : Int32)) ri_307_334 rfl (by decide) ?_
  refine rs_iadd (r := nI (6 * n + 1)) ri_307_335 rfl (ro_ni (6 * n) 1 rfl) ?_
  refine rs_scr ri_307_336 rfl (by omega) hX ?_
  refine rs_aload_n ri_307_337 rfl rfl ?_
  refine rs_iload_n ri_307_338 rfl rfl ?_
  refine rs_iconst (v := (2 : Int32)) ri_307_339 rfl (by decide) ?_
  refine rs_iadd (r := nI (6 * n + 2)) ri_307_340 rfl (ro_ni (6 * n) 2 rfl) ?_
  refine rs_scr ri_307_341 rfl (by omega) hX ?_
  refine rs_virt (As := [.int (X.2 (6 * n + 1)), .int (X.2 (6 * n + 2))]) (r := [.int r]) ri_307_342 rfl (by decide) rm_208.2.2.2 rm_208.2.2.1 rfl rfl rfl (by decide) (ro_kf (kd_163 hL1)) (Nat.le_of_ble_eq_true rfl) (by decide) (by decide) hs2 ?_
  rintro _ M2 ⟨e2, hM2⟩
  rw [e2]
  show ro_w X _ 307 _ 345 [(3, .int (nI (6 * n))), (2, .ref 163), (1, .ref 4), (0, .ref 0)] [.int r, .int r] M2 (190, 79052)
  exact rs_icmp_eq (t := 1524) ri_307_345 rfl rfl (fun _ => hnext M2 hM2) (fun h => absurd rfl h)
/-- case 4: feed -/
theorem lw_c4 (hL : ∀ M, Inv M → ro_lay M) (hM : Inv M) (hX : X.1 ≤ 3072) (hn : 6 * n + 6 ≤ X.1) (heq : ro_eqI Inv X 40 210 [.int (X.2 (6 * n + 1))]) (hnext : ∀ M2, Inv M2 → ro_w X 2000 307 (fun v _ => v = some (.int 1)) 1524 [(3, .int (nI (6 * n))), (2, .ref 163), (1, .ref 4), (0, .ref 0)] [] M2 (190, 79052)) : ro_w X 2000 307 (fun v _ => v = some (.int 1)) 350 [(3, .int (nI (6 * n))), (2, .ref 163), (1, .ref 4), (0, .ref 0)] [] M (190, 79052) := by
  refine rs_aload_n ri_307_350 rfl rfl ?_
  refine rs_aload_n ri_307_351 rfl rfl ?_
  refine rs_iload_n ri_307_352 rfl rfl ?_
  refine rs_iconst (v := (1 : Int32)) ri_307_353 rfl (by decide) ?_
  refine rs_iadd (r := nI (6 * n + 1)) ri_307_354 rfl (ro_ni (6 * n) 1 rfl) ?_
  refine rs_scr ri_307_355 rfl (by omega) hX ?_
  refine rs_virt (As := [.int (X.2 (6 * n + 1))]) (r := []) ri_307_356 rfl (by decide) rm_40.2.2.2 rm_40.2.2.1 rfl rfl rfl (by decide) (ro_kf (kd_4 (hL M hM))) (Nat.le_of_ble_eq_true rfl) (by decide) (by decide) (heq M hM) ?_
  rintro _ M1 ⟨hL1, r, e1, hs2⟩
  rw [e1]
  show ro_w X _ 307 _ 359 [(3, .int (nI (6 * n))), (2, .ref 163), (1, .ref 4), (0, .ref 0)] [.int r] M1 (190, 79052)
  refine rs_aload_n ri_307_359 rfl rfl ?_
  refine rs_aload_n ri_307_360 rfl rfl ?_
  refine rs_iload_n ri_307_361 rfl rfl ?_
  refine rs_iconst (v := (1 : Int32)) ri_307_362 rfl (by decide) ?_
  refine rs_iadd (r := nI (6 * n + 1)) ri_307_363 rfl (ro_ni (6 * n) 1 rfl) ?_
  refine rs_scr ri_307_364 rfl (by omega) hX ?_
  refine rs_virt (As := [.int (X.2 (6 * n + 1))]) (r := [.int r]) ri_307_365 rfl (by decide) rm_210.2.2.2 rm_210.2.2.1 rfl rfl rfl (by decide) (ro_kf (kd_163 hL1)) (Nat.le_of_ble_eq_true rfl) (by decide) (by decide) hs2 ?_
  rintro _ M2 ⟨e2, hM2⟩
  rw [e2]
  show ro_w X _ 307 _ 368 [(3, .int (nI (6 * n))), (2, .ref 163), (1, .ref 4), (0, .ref 0)] [.int r, .int r] M2 (190, 79052)
  exact rs_icmp_eq (t := 1524) ri_307_368 rfl rfl (fun _ => hnext M2 hM2) (fun h => absurd rfl h)
/-- case 5: law -/
theorem lw_c5 (hL : ∀ M, Inv M → ro_lay M) (hM : Inv M) (hX : X.1 ≤ 3072) (hn : 6 * n + 6 ≤ X.1) (heq : ro_eqI Inv X 43 211 []) (hnext : ∀ M2, Inv M2 → ro_w X 2000 307 (fun v _ => v = some (.int 1)) 1524 [(3, .int (nI (6 * n))), (2, .ref 163), (1, .ref 4), (0, .ref 0)] [] M2 (190, 79052)) : ro_w X 2000 307 (fun v _ => v = some (.int 1)) 373 [(3, .int (nI (6 * n))), (2, .ref 163), (1, .ref 4), (0, .ref 0)] [] M (190, 79052) := by
  refine rs_aload_n ri_307_373 rfl rfl ?_
  refine rs_virt (As := []) (r := []) ri_307_374 rfl (by decide) rm_43.2.2.2 rm_43.2.2.1 rfl rfl rfl (by decide) (ro_kf (kd_4 (hL M hM))) (Nat.le_of_ble_eq_true rfl) (by decide) (by decide) (heq M hM) ?_
  rintro _ M1 ⟨hL1, r, e1, hs2⟩
  rw [e1]
  show ro_w X _ 307 _ 377 [(3, .int (nI (6 * n))), (2, .ref 163), (1, .ref 4), (0, .ref 0)] [.int r] M1 (190, 79052)
  refine rs_aload_n ri_307_377 rfl rfl ?_
  refine rs_virt (As := []) (r := [.int r]) ri_307_378 rfl (by decide) rm_211.2.2.2 rm_211.2.2.1 rfl rfl rfl (by decide) (ro_kf (kd_163 hL1)) (Nat.le_of_ble_eq_true rfl) (by decide) (by decide) hs2 ?_
  rintro _ M2 ⟨e2, hM2⟩
  rw [e2]
  show ro_w X _ 307 _ 381 [(3, .int (nI (6 * n))), (2, .ref 163), (1, .ref 4), (0, .ref 0)] [.int r, .int r] M2 (190, 79052)
  exact rs_icmp_eq (t := 1524) ri_307_381 rfl rfl (fun _ => hnext M2 hM2) (fun h => absurd rfl h)
/-- case 6: odds -/
theorem lw_c6 (hL : ∀ M, Inv M → ro_lay M) (hM : Inv M) (hX : X.1 ≤ 3072) (hn : 6 * n + 6 ≤ X.1) (heq : ro_eqI Inv X 55 226 [.int (X.2 (6 * n + 1))]) (hnext : ∀ M2, Inv M2 → ro_w X 2000 307 (fun v _ => v = some (.int 1)) 1524 [(3, .int (nI (6 * n))), (2, .ref 163), (1, .ref 4), (0, .ref 0)] [] M2 (190, 79052)) : ro_w X 2000 307 (fun v _ => v = some (.int 1)) 386 [(3, .int (nI (6 * n))), (2, .ref 163), (1, .ref 4), (0, .ref 0)] [] M (190, 79052) := by
  refine rs_aload_n ri_307_386 rfl rfl ?_
  refine rs_aload_n ri_307_387 rfl rfl ?_
  refine rs_iload_n ri_307_388 rfl rfl ?_
  refine rs_iconst (v := (1 : Int32)) ri_307_389 rfl (by decide) ?_
  refine rs_iadd (r := nI (6 * n + 1)) ri_307_390 rfl (ro_ni (6 * n) 1 rfl) ?_
  refine rs_scr ri_307_391 rfl (by omega) hX ?_
  refine rs_virt (As := [.int (X.2 (6 * n + 1))]) (r := []) ri_307_392 rfl (by decide) rm_55.2.2.2 rm_55.2.2.1 rfl rfl rfl (by decide) (ro_kf (kd_4 (hL M hM))) (Nat.le_of_ble_eq_true rfl) (by decide) (by decide) (heq M hM) ?_
  rintro _ M1 ⟨hL1, r, e1, hs2⟩
  rw [e1]
  show ro_w X _ 307 _ 395 [(3, .int (nI (6 * n))), (2, .ref 163), (1, .ref 4), (0, .ref 0)] [.int r] M1 (190, 79052)
  refine rs_aload_n ri_307_395 rfl rfl ?_
  refine rs_aload_n ri_307_396 rfl rfl ?_
  refine rs_iload_n ri_307_397 rfl rfl ?_
  refine rs_iconst (v := (1 : Int32)) ri_307_398 rfl (by decide) ?_
  refine rs_iadd (r := nI (6 * n + 1)) ri_307_399 rfl (ro_ni (6 * n) 1 rfl) ?_
  refine rs_scr ri_307_400 rfl (by omega) hX ?_
  refine rs_virt (As := [.int (X.2 (6 * n + 1))]) (r := [.int r]) ri_307_401 rfl (by decide) rm_226.2.2.2 rm_226.2.2.1 rfl rfl rfl (by decide) (ro_kf (kd_163 hL1)) (Nat.le_of_ble_eq_true rfl) (by decide) (by decide) hs2 ?_
  rintro _ M2 ⟨e2, hM2⟩
  rw [e2]
  show ro_w X _ 307 _ 404 [(3, .int (nI (6 * n))), (2, .ref 163), (1, .ref 4), (0, .ref 0)] [.int r, .int r] M2 (190, 79052)
  exact rs_icmp_eq (t := 1524) ri_307_404 rfl rfl (fun _ => hnext M2 hM2) (fun h => absurd rfl h)
/-- case 7: later -/
theorem lw_c7 (hL : ∀ M, Inv M → ro_lay M) (hM : Inv M) (hX : X.1 ≤ 3072) (hn : 6 * n + 6 ≤ X.1) (heq : ro_eqI Inv X 64 233 [.int (X.2 (6 * n + 1)), .int (X.2 (6 * n + 2)), .int (X.2 (6 * n + 3)), .int (X.2 (6 * n + 4))]) (hnext : ∀ M2, Inv M2 → ro_w X 2000 307 (fun v _ => v = some (.int 1)) 1524 [(3, .int (nI (6 * n))), (2, .ref 163), (1, .ref 4), (0, .ref 0)] [] M2 (190, 79052)) : ro_w X 2000 307 (fun v _ => v = some (.int 1)) 409 [(3, .int (nI (6 * n))), (2, .ref 163), (1, .ref 4), (0, .ref 0)] [] M (190, 79052) := by
  refine rs_aload_n ri_307_409 rfl rfl ?_
  refine rs_aload_n ri_307_410 rfl rfl ?_
  refine rs_iload_n ri_307_411 rfl rfl ?_
  refine rs_iconst (v := (1 : Int32)) ri_307_412 rfl (by decide) ?_
  refine rs_iadd (r := nI (6 * n + 1)) ri_307_413 rfl (ro_ni (6 * n) 1 rfl) ?_
  refine rs_scr ri_307_414 rfl (by omega) hX ?_
  refine rs_aload_n ri_307_415 rfl rfl ?_
  refine rs_iload_n ri_307_416 rfl rfl ?_
  refine rs_iconst (v := (2 : Int32)) ri_307_417 rfl (by decide) ?_
  refine rs_iadd (r := nI (6 * n + 2)) ri_307_418 rfl (ro_ni (6 * n) 2 rfl) ?_
  refine rs_scr ri_307_419 rfl (by omega) hX ?_
  refine rs_aload_n ri_307_420 rfl rfl ?_
  refine rs_iload_n ri_307_421 rfl rfl ?_
  refine rs_iconst (v := (3 : Int32)) ri_307_422 rfl (by decide) ?_
  refine rs_iadd (r := nI (6 * n + 3)) ri_307_423 rfl (ro_ni (6 * n) 3 rfl) ?_
  refine rs_scr ri_307_424 rfl (by omega) hX ?_
  refine rs_aload_n ri_307_425 rfl rfl ?_
  refine rs_iload_n ri_307_426 rfl rfl ?_
  refine rs_iconst (v := (4 : Int32)) ri_307_427 rfl (by decide) ?_
  refine rs_iadd (r := nI (6 * n + 4)) ri_307_428 rfl (ro_ni (6 * n) 4 rfl) ?_
  refine rs_scr ri_307_429 rfl (by omega) hX ?_
  refine rs_virt (As := [.int (X.2 (6 * n + 1)), .int (X.2 (6 * n + 2)), .int (X.2 (6 * n + 3)), .int (X.2 (6 * n + 4))]) (r := []) ri_307_430 rfl (by decide) rm_64.2.2.2 rm_64.2.2.1 rfl rfl rfl (by decide) (ro_kf (kd_4 (hL M hM))) (Nat.le_of_ble_eq_true rfl) (by decide) (by decide) (heq M hM) ?_
  rintro _ M1 ⟨hL1, r, e1, hs2⟩
  rw [e1]
  show ro_w X _ 307 _ 433 [(3, .int (nI (6 * n))), (2, .ref 163), (1, .ref 4), (0, .ref 0)] [.int r] M1 (190, 79052)
  refine rs_aload_n ri_307_433 rfl rfl ?_
  refine rs_aload_n ri_307_434 rfl rfl ?_
  refine rs_iload_n ri_307_435 rfl rfl ?_
  refine rs_iconst (v := (1 : Int32)) ri_307_436 rfl (by decide) ?_
  refine rs_iadd (r := nI (6 * n + 1)) ri_307_437 rfl (ro_ni (6 * n) 1 rfl) ?_
  refine rs_scr ri_307_438 rfl (by omega) hX ?_
  refine rs_aload_n ri_307_439 rfl rfl ?_
  refine rs_iload_n ri_307_440 rfl rfl ?_
  refine rs_iconst (v := (2 : Int32)) ri_307_441 rfl (by decide) ?_
  refine rs_iadd (r := nI (6 * n + 2)) ri_307_442 rfl (ro_ni (6 * n) 2 rfl) ?_
  refine rs_scr ri_307_443 rfl (by omega) hX ?_
  refine rs_aload_n ri_307_444 rfl rfl ?_
  refine rs_iload_n ri_307_445 rfl rfl ?_
  refine rs_iconst (v := (3 : Int32)) ri_307_446 rfl (by decide) ?_
  refine rs_iadd (r := nI (6 * n + 3)) ri_307_447 rfl (ro_ni (6 * n) 3 rfl) ?_
  refine rs_scr ri_307_448 rfl (by omega) hX ?_
  refine rs_aload_n ri_307_449 rfl rfl ?_
  refine rs_iload_n ri_307_450 rfl rfl ?_
  refine rs_iconst (v := (4 : Int32)) ri_307_451 rfl (by decide) ?_
  refine rs_iadd (r := nI (6 * n + 4)) ri_307_452 rfl (ro_ni (6 * n) 4 rfl) ?_
  refine rs_scr ri_307_453 rfl (by omega) hX ?_
  refine rs_virt (As := [.int (X.2 (6 * n + 1)), .int (X.2 (6 * n + 2)), .int (X.2 (6 * n + 3)), .int (X.2 (6 * n + 4))]) (r := [.int r]) ri_307_454 rfl (by decide) rm_233.2.2.2 rm_233.2.2.1 rfl rfl rfl (by decide) (ro_kf (kd_163 hL1)) (Nat.le_of_ble_eq_true rfl) (by decide) (by decide) hs2 ?_
  rintro _ M2 ⟨e2, hM2⟩
  rw [e2]
  show ro_w X _ 307 _ 457 [(3, .int (nI (6 * n))), (2, .ref 163), (1, .ref 4), (0, .ref 0)] [.int r, .int r] M2 (190, 79052)
  exact rs_icmp_eq (t := 1524) ri_307_457 rfl rfl (fun _ => hnext M2 hM2) (fun h => absurd rfl h)
/-- case 8: evening -/
theorem lw_c8 (hL : ∀ M, Inv M → ro_lay M) (hM : Inv M) (hX : X.1 ≤ 3072) (hn : 6 * n + 6 ≤ X.1) (heq : ro_eqI Inv X 79 246 [.int (X.2 (6 * n + 1)), .int (X.2 (6 * n + 2)), .int (X.2 (6 * n + 3))]) (hnext : ∀ M2, Inv M2 → ro_w X 2000 307 (fun v _ => v = some (.int 1)) 1524 [(3, .int (nI (6 * n))), (2, .ref 163), (1, .ref 4), (0, .ref 0)] [] M2 (190, 79052)) : ro_w X 2000 307 (fun v _ => v = some (.int 1)) 462 [(3, .int (nI (6 * n))), (2, .ref 163), (1, .ref 4), (0, .ref 0)] [] M (190, 79052) := by
  refine rs_aload_n ri_307_462 rfl rfl ?_
  refine rs_aload_n ri_307_463 rfl rfl ?_
  refine rs_iload_n ri_307_464 rfl rfl ?_
  refine rs_iconst (v := (1 : Int32)) ri_307_465 rfl (by decide) ?_
  refine rs_iadd (r := nI (6 * n + 1)) ri_307_466 rfl (ro_ni (6 * n) 1 rfl) ?_
  refine rs_scr ri_307_467 rfl (by omega) hX ?_
  refine rs_aload_n ri_307_468 rfl rfl ?_
  refine rs_iload_n ri_307_469 rfl rfl ?_
  refine rs_iconst (v := (2 : Int32)) ri_307_470 rfl (by decide) ?_
  refine rs_iadd (r := nI (6 * n + 2)) ri_307_471 rfl (ro_ni (6 * n) 2 rfl) ?_
  refine rs_scr ri_307_472 rfl (by omega) hX ?_
  refine rs_aload_n ri_307_473 rfl rfl ?_
  refine rs_iload_n ri_307_474 rfl rfl ?_
  refine rs_iconst (v := (3 : Int32)) ri_307_475 rfl (by decide) ?_
  refine rs_iadd (r := nI (6 * n + 3)) ri_307_476 rfl (ro_ni (6 * n) 3 rfl) ?_
  refine rs_scr ri_307_477 rfl (by omega) hX ?_
  refine rs_virt (As := [.int (X.2 (6 * n + 1)), .int (X.2 (6 * n + 2)), .int (X.2 (6 * n + 3))]) (r := []) ri_307_478 rfl (by decide) rm_79.2.2.2 rm_79.2.2.1 rfl rfl rfl (by decide) (ro_kf (kd_4 (hL M hM))) (Nat.le_of_ble_eq_true rfl) (by decide) (by decide) (heq M hM) ?_
  rintro _ M1 ⟨hL1, r, e1, hs2⟩
  rw [e1]
  show ro_w X _ 307 _ 481 [(3, .int (nI (6 * n))), (2, .ref 163), (1, .ref 4), (0, .ref 0)] [.int r] M1 (190, 79052)
  refine rs_aload_n ri_307_481 rfl rfl ?_
  refine rs_aload_n ri_307_482 rfl rfl ?_
  refine rs_iload_n ri_307_483 rfl rfl ?_
  refine rs_iconst (v := (1 : Int32)) ri_307_484 rfl (by decide) ?_
  refine rs_iadd (r := nI (6 * n + 1)) ri_307_485 rfl (ro_ni (6 * n) 1 rfl) ?_
  refine rs_scr ri_307_486 rfl (by omega) hX ?_
  refine rs_aload_n ri_307_487 rfl rfl ?_
  refine rs_iload_n ri_307_488 rfl rfl ?_
  refine rs_iconst (v := (2 : Int32)) ri_307_489 rfl (by decide) ?_
  refine rs_iadd (r := nI (6 * n + 2)) ri_307_490 rfl (ro_ni (6 * n) 2 rfl) ?_
  refine rs_scr ri_307_491 rfl (by omega) hX ?_
  refine rs_aload_n ri_307_492 rfl rfl ?_
  refine rs_iload_n ri_307_493 rfl rfl ?_
  refine rs_iconst (v := (3 : Int32)) ri_307_494 rfl (by decide) ?_
  refine rs_iadd (r := nI (6 * n + 3)) ri_307_495 rfl (ro_ni (6 * n) 3 rfl) ?_
  refine rs_scr ri_307_496 rfl (by omega) hX ?_
  refine rs_virt (As := [.int (X.2 (6 * n + 1)), .int (X.2 (6 * n + 2)), .int (X.2 (6 * n + 3))]) (r := [.int r]) ri_307_497 rfl (by decide) rm_246.2.2.2 rm_246.2.2.1 rfl rfl rfl (by decide) (ro_kf (kd_163 hL1)) (Nat.le_of_ble_eq_true rfl) (by decide) (by decide) hs2 ?_
  rintro _ M2 ⟨e2, hM2⟩
  rw [e2]
  show ro_w X _ 307 _ 500 [(3, .int (nI (6 * n))), (2, .ref 163), (1, .ref 4), (0, .ref 0)] [.int r, .int r] M2 (190, 79052)
  exact rs_icmp_eq (t := 1524) ri_307_500 rfl rfl (fun _ => hnext M2 hM2) (fun h => absurd rfl h)
/-- case 9: round -/
theorem lw_c9 (hL : ∀ M, Inv M → ro_lay M) (hM : Inv M) (hX : X.1 ≤ 3072) (hn : 6 * n + 6 ≤ X.1) (heq : ro_eqI Inv X 83 247 [.int (X.2 (6 * n + 1)), .int (X.2 (6 * n + 2))]) (hnext : ∀ M2, Inv M2 → ro_w X 2000 307 (fun v _ => v = some (.int 1)) 1524 [(3, .int (nI (6 * n))), (2, .ref 163), (1, .ref 4), (0, .ref 0)] [] M2 (190, 79052)) : ro_w X 2000 307 (fun v _ => v = some (.int 1)) 505 [(3, .int (nI (6 * n))), (2, .ref 163), (1, .ref 4), (0, .ref 0)] [] M (190, 79052) := by
  refine rs_aload_n ri_307_505 rfl rfl ?_
  refine rs_aload_n ri_307_506 rfl rfl ?_
  refine rs_iload_n ri_307_507 rfl rfl ?_
  refine rs_iconst (v := (1 : Int32)) ri_307_508 rfl (by decide) ?_
  refine rs_iadd (r := nI (6 * n + 1)) ri_307_509 rfl (ro_ni (6 * n) 1 rfl) ?_
  refine rs_scr ri_307_510 rfl (by omega) hX ?_
  refine rs_aload_n ri_307_511 rfl rfl ?_
  refine rs_iload_n ri_307_512 rfl rfl ?_
  refine rs_iconst (v := (2 : Int32)) ri_307_513 rfl (by decide) ?_
  refine rs_iadd (r := nI (6 * n + 2)) ri_307_514 rfl (ro_ni (6 * n) 2 rfl) ?_
  refine rs_scr ri_307_515 rfl (by omega) hX ?_
  refine rs_virt (As := [.int (X.2 (6 * n + 1)), .int (X.2 (6 * n + 2))]) (r := []) ri_307_516 rfl (by decide) rm_83.2.2.2 rm_83.2.2.1 rfl rfl rfl (by decide) (ro_kf (kd_4 (hL M hM))) (Nat.le_of_ble_eq_true rfl) (by decide) (by decide) (heq M hM) ?_
  rintro _ M1 ⟨hL1, r, e1, hs2⟩
  rw [e1]
  show ro_w X _ 307 _ 519 [(3, .int (nI (6 * n))), (2, .ref 163), (1, .ref 4), (0, .ref 0)] [.int r] M1 (190, 79052)
  refine rs_aload_n ri_307_519 rfl rfl ?_
  refine rs_aload_n ri_307_520 rfl rfl ?_
  refine rs_iload_n ri_307_521 rfl rfl ?_
  refine rs_iconst (v := (1 : Int32)) ri_307_522 rfl (by decide) ?_
  refine rs_iadd (r := nI (6 * n + 1)) ri_307_523 rfl (ro_ni (6 * n) 1 rfl) ?_
  refine rs_scr ri_307_524 rfl (by omega) hX ?_
  refine rs_aload_n ri_307_525 rfl rfl ?_
  refine rs_iload_n ri_307_526 rfl rfl ?_
  refine rs_iconst (v := (2 : Int32)) ri_307_527 rfl (by decide) ?_
  refine rs_iadd (r := nI (6 * n + 2)) ri_307_528 rfl (ro_ni (6 * n) 2 rfl) ?_
  refine rs_scr ri_307_529 rfl (by omega) hX ?_
  refine rs_virt (As := [.int (X.2 (6 * n + 1)), .int (X.2 (6 * n + 2))]) (r := [.int r]) ri_307_530 rfl (by decide) rm_247.2.2.2 rm_247.2.2.1 rfl rfl rfl (by decide) (ro_kf (kd_163 hL1)) (Nat.le_of_ble_eq_true rfl) (by decide) (by decide) hs2 ?_
  rintro _ M2 ⟨e2, hM2⟩
  rw [e2]
  show ro_w X _ 307 _ 533 [(3, .int (nI (6 * n))), (2, .ref 163), (1, .ref 4), (0, .ref 0)] [.int r, .int r] M2 (190, 79052)
  exact rs_icmp_eq (t := 1524) ri_307_533 rfl rfl (fun _ => hnext M2 hM2) (fun h => absurd rfl h)
/-- case 10: cleanest -/
theorem lw_c10 (hL : ∀ M, Inv M → ro_lay M) (hM : Inv M) (hX : X.1 ≤ 3072) (hn : 6 * n + 6 ≤ X.1) (heq : ro_eqI Inv X 93 250 [.int (X.2 (6 * n + 1))]) (hnext : ∀ M2, Inv M2 → ro_w X 2000 307 (fun v _ => v = some (.int 1)) 1524 [(3, .int (nI (6 * n))), (2, .ref 163), (1, .ref 4), (0, .ref 0)] [] M2 (190, 79052)) : ro_w X 2000 307 (fun v _ => v = some (.int 1)) 538 [(3, .int (nI (6 * n))), (2, .ref 163), (1, .ref 4), (0, .ref 0)] [] M (190, 79052) := by
  refine rs_aload_n ri_307_538 rfl rfl ?_
  refine rs_aload_n ri_307_539 rfl rfl ?_
  refine rs_iload_n ri_307_540 rfl rfl ?_
  refine rs_iconst (v := (1 : Int32)) ri_307_541 rfl (by decide) ?_
  refine rs_iadd (r := nI (6 * n + 1)) ri_307_542 rfl (ro_ni (6 * n) 1 rfl) ?_
  refine rs_scr ri_307_543 rfl (by omega) hX ?_
  refine rs_virt (As := [.int (X.2 (6 * n + 1))]) (r := []) ri_307_544 rfl (by decide) rm_93.2.2.2 rm_93.2.2.1 rfl rfl rfl (by decide) (ro_kf (kd_4 (hL M hM))) (Nat.le_of_ble_eq_true rfl) (by decide) (by decide) (heq M hM) ?_
  rintro _ M1 ⟨hL1, r, e1, hs2⟩
  rw [e1]
  show ro_w X _ 307 _ 547 [(3, .int (nI (6 * n))), (2, .ref 163), (1, .ref 4), (0, .ref 0)] [.int r] M1 (190, 79052)
  refine rs_aload_n ri_307_547 rfl rfl ?_
  refine rs_aload_n ri_307_548 rfl rfl ?_
  refine rs_iload_n ri_307_549 rfl rfl ?_
  refine rs_iconst (v := (1 : Int32)) ri_307_550 rfl (by decide) ?_
  refine rs_iadd (r := nI (6 * n + 1)) ri_307_551 rfl (ro_ni (6 * n) 1 rfl) ?_
  refine rs_scr ri_307_552 rfl (by omega) hX ?_
  refine rs_virt (As := [.int (X.2 (6 * n + 1))]) (r := [.int r]) ri_307_553 rfl (by decide) rm_250.2.2.2 rm_250.2.2.1 rfl rfl rfl (by decide) (ro_kf (kd_163 hL1)) (Nat.le_of_ble_eq_true rfl) (by decide) (by decide) hs2 ?_
  rintro _ M2 ⟨e2, hM2⟩
  rw [e2]
  show ro_w X _ 307 _ 556 [(3, .int (nI (6 * n))), (2, .ref 163), (1, .ref 4), (0, .ref 0)] [.int r, .int r] M2 (190, 79052)
  exact rs_icmp_eq (t := 1524) ri_307_556 rfl rfl (fun _ => hnext M2 hM2) (fun h => absurd rfl h)
/-- case 11: pay -/
theorem lw_c11 (hL : ∀ M, Inv M → ro_lay M) (hM : Inv M) (hX : X.1 ≤ 3072) (hn : 6 * n + 6 ≤ X.1) (heq : ro_eqJ Inv X 94 251 [.int (X.2 (6 * n + 1)), .int (X.2 (6 * n + 2)), .int (X.2 (6 * n + 3)), .int (X.2 (6 * n + 4))]) (hnext : ∀ M2, Inv M2 → ro_w X 2000 307 (fun v _ => v = some (.int 1)) 1524 [(3, .int (nI (6 * n))), (2, .ref 163), (1, .ref 4), (0, .ref 0)] [] M2 (190, 79052)) : ro_w X 2000 307 (fun v _ => v = some (.int 1)) 561 [(3, .int (nI (6 * n))), (2, .ref 163), (1, .ref 4), (0, .ref 0)] [] M (190, 79052) := by
  refine rs_aload_n ri_307_561 rfl rfl ?_
  refine rs_aload_n ri_307_562 rfl rfl ?_
  refine rs_iload_n ri_307_563 rfl rfl ?_
  refine rs_iconst (v := (1 : Int32)) ri_307_564 rfl (by decide) ?_
  refine rs_iadd (r := nI (6 * n + 1)) ri_307_565 rfl (ro_ni (6 * n) 1 rfl) ?_
  refine rs_scr ri_307_566 rfl (by omega) hX ?_
  refine rs_aload_n ri_307_567 rfl rfl ?_
  refine rs_iload_n ri_307_568 rfl rfl ?_
  refine rs_iconst (v := (2 : Int32)) ri_307_569 rfl (by decide) ?_
  refine rs_iadd (r := nI (6 * n + 2)) ri_307_570 rfl (ro_ni (6 * n) 2 rfl) ?_
  refine rs_scr ri_307_571 rfl (by omega) hX ?_
  refine rs_aload_n ri_307_572 rfl rfl ?_
  refine rs_iload_n ri_307_573 rfl rfl ?_
  refine rs_iconst (v := (3 : Int32)) ri_307_574 rfl (by decide) ?_
  refine rs_iadd (r := nI (6 * n + 3)) ri_307_575 rfl (ro_ni (6 * n) 3 rfl) ?_
  refine rs_scr ri_307_576 rfl (by omega) hX ?_
  refine rs_aload_n ri_307_577 rfl rfl ?_
  refine rs_iload_n ri_307_578 rfl rfl ?_
  refine rs_iconst (v := (4 : Int32)) ri_307_579 rfl (by decide) ?_
  refine rs_iadd (r := nI (6 * n + 4)) ri_307_580 rfl (ro_ni (6 * n) 4 rfl) ?_
  refine rs_scr ri_307_581 rfl (by omega) hX ?_
  refine rs_virt (As := [.int (X.2 (6 * n + 1)), .int (X.2 (6 * n + 2)), .int (X.2 (6 * n + 3)), .int (X.2 (6 * n + 4))]) (r := []) ri_307_582 rfl (by decide) rm_94.2.2.2 rm_94.2.2.1 rfl rfl rfl (by decide) (ro_kf (kd_4 (hL M hM))) (Nat.le_of_ble_eq_true rfl) (by decide) (by decide) (heq M hM) ?_
  rintro _ M1 ⟨hL1, r, e1, hs2⟩
  rw [e1]
  show ro_w X _ 307 _ 585 [(3, .int (nI (6 * n))), (2, .ref 163), (1, .ref 4), (0, .ref 0)] [.long r] M1 (190, 79052)
  refine rs_aload_n ri_307_585 rfl rfl ?_
  refine rs_aload_n ri_307_586 rfl rfl ?_
  refine rs_iload_n ri_307_587 rfl rfl ?_
  refine rs_iconst (v := (1 : Int32)) ri_307_588 rfl (by decide) ?_
  refine rs_iadd (r := nI (6 * n + 1)) ri_307_589 rfl (ro_ni (6 * n) 1 rfl) ?_
  refine rs_scr ri_307_590 rfl (by omega) hX ?_
  refine rs_aload_n ri_307_591 rfl rfl ?_
  refine rs_iload_n ri_307_592 rfl rfl ?_
  refine rs_iconst (v := (2 : Int32)) ri_307_593 rfl (by decide) ?_
  refine rs_iadd (r := nI (6 * n + 2)) ri_307_594 rfl (ro_ni (6 * n) 2 rfl) ?_
  refine rs_scr ri_307_595 rfl (by omega) hX ?_
  refine rs_aload_n ri_307_596 rfl rfl ?_
  refine rs_iload_n ri_307_597 rfl rfl ?_
  refine rs_iconst (v := (3 : Int32)) ri_307_598 rfl (by decide) ?_
  refine rs_iadd (r := nI (6 * n + 3)) ri_307_599 rfl (ro_ni (6 * n) 3 rfl) ?_
  refine rs_scr ri_307_600 rfl (by omega) hX ?_
  refine rs_aload_n ri_307_601 rfl rfl ?_
  refine rs_iload_n ri_307_602 rfl rfl ?_
  refine rs_iconst (v := (4 : Int32)) ri_307_603 rfl (by decide) ?_
  refine rs_iadd (r := nI (6 * n + 4)) ri_307_604 rfl (ro_ni (6 * n) 4 rfl) ?_
  refine rs_scr ri_307_605 rfl (by omega) hX ?_
  refine rs_virt (As := [.int (X.2 (6 * n + 1)), .int (X.2 (6 * n + 2)), .int (X.2 (6 * n + 3)), .int (X.2 (6 * n + 4))]) (r := [.long r]) ri_307_606 rfl (by decide) rm_251.2.2.2 rm_251.2.2.1 rfl rfl rfl (by decide) (ro_kf (kd_163 hL1)) (Nat.le_of_ble_eq_true rfl) (by decide) (by decide) hs2 ?_
  rintro _ M2 ⟨e2, hM2⟩
  rw [e2]
  show ro_w X _ 307 _ 609 [(3, .int (nI (6 * n))), (2, .ref 163), (1, .ref 4), (0, .ref 0)] [.long r, .long r] M2 (190, 79052)
  refine rs_lcmp (r := (0 : Int32)) ri_307_609 rfl (ro_cmp0 r) ?_
  exact rs_if_eq (t := 1524) ri_307_610 rfl rfl (fun _ => hnext M2 hM2) (fun h => absurd rfl h)
/-- case 12: mean -/
theorem lw_c12 (hL : ∀ M, Inv M → ro_lay M) (hM : Inv M) (hX : X.1 ≤ 3072) (hn : 6 * n + 6 ≤ X.1) (heq : ro_eqJ Inv X 103 255 [.int (X.2 (6 * n + 1)), .int (X.2 (6 * n + 2)), .int (X.2 (6 * n + 3))]) (hnext : ∀ M2, Inv M2 → ro_w X 2000 307 (fun v _ => v = some (.int 1)) 1524 [(3, .int (nI (6 * n))), (2, .ref 163), (1, .ref 4), (0, .ref 0)] [] M2 (190, 79052)) : ro_w X 2000 307 (fun v _ => v = some (.int 1)) 615 [(3, .int (nI (6 * n))), (2, .ref 163), (1, .ref 4), (0, .ref 0)] [] M (190, 79052) := by
  refine rs_aload_n ri_307_615 rfl rfl ?_
  refine rs_aload_n ri_307_616 rfl rfl ?_
  refine rs_iload_n ri_307_617 rfl rfl ?_
  refine rs_iconst (v := (1 : Int32)) ri_307_618 rfl (by decide) ?_
  refine rs_iadd (r := nI (6 * n + 1)) ri_307_619 rfl (ro_ni (6 * n) 1 rfl) ?_
  refine rs_scr ri_307_620 rfl (by omega) hX ?_
  refine rs_aload_n ri_307_621 rfl rfl ?_
  refine rs_iload_n ri_307_622 rfl rfl ?_
  refine rs_iconst (v := (2 : Int32)) ri_307_623 rfl (by decide) ?_
  refine rs_iadd (r := nI (6 * n + 2)) ri_307_624 rfl (ro_ni (6 * n) 2 rfl) ?_
  refine rs_scr ri_307_625 rfl (by omega) hX ?_
  refine rs_aload_n ri_307_626 rfl rfl ?_
  refine rs_iload_n ri_307_627 rfl rfl ?_
  refine rs_iconst (v := (3 : Int32)) ri_307_628 rfl (by decide) ?_
  refine rs_iadd (r := nI (6 * n + 3)) ri_307_629 rfl (ro_ni (6 * n) 3 rfl) ?_
  refine rs_scr ri_307_630 rfl (by omega) hX ?_
  refine rs_virt (As := [.int (X.2 (6 * n + 1)), .int (X.2 (6 * n + 2)), .int (X.2 (6 * n + 3))]) (r := []) ri_307_631 rfl (by decide) rm_103.2.2.2 rm_103.2.2.1 rfl rfl rfl (by decide) (ro_kf (kd_4 (hL M hM))) (Nat.le_of_ble_eq_true rfl) (by decide) (by decide) (heq M hM) ?_
  rintro _ M1 ⟨hL1, r, e1, hs2⟩
  rw [e1]
  show ro_w X _ 307 _ 634 [(3, .int (nI (6 * n))), (2, .ref 163), (1, .ref 4), (0, .ref 0)] [.long r] M1 (190, 79052)
  refine rs_aload_n ri_307_634 rfl rfl ?_
  refine rs_aload_n ri_307_635 rfl rfl ?_
  refine rs_iload_n ri_307_636 rfl rfl ?_
  refine rs_iconst (v := (1 : Int32)) ri_307_637 rfl (by decide) ?_
  refine rs_iadd (r := nI (6 * n + 1)) ri_307_638 rfl (ro_ni (6 * n) 1 rfl) ?_
  refine rs_scr ri_307_639 rfl (by omega) hX ?_
  refine rs_aload_n ri_307_640 rfl rfl ?_
  refine rs_iload_n ri_307_641 rfl rfl ?_
  refine rs_iconst (v := (2 : Int32)) ri_307_642 rfl (by decide) ?_
  refine rs_iadd (r := nI (6 * n + 2)) ri_307_643 rfl (ro_ni (6 * n) 2 rfl) ?_
  refine rs_scr ri_307_644 rfl (by omega) hX ?_
  refine rs_aload_n ri_307_645 rfl rfl ?_
  refine rs_iload_n ri_307_646 rfl rfl ?_
  refine rs_iconst (v := (3 : Int32)) ri_307_647 rfl (by decide) ?_
  refine rs_iadd (r := nI (6 * n + 3)) ri_307_648 rfl (ro_ni (6 * n) 3 rfl) ?_
  refine rs_scr ri_307_649 rfl (by omega) hX ?_
  refine rs_virt (As := [.int (X.2 (6 * n + 1)), .int (X.2 (6 * n + 2)), .int (X.2 (6 * n + 3))]) (r := [.long r]) ri_307_650 rfl (by decide) rm_255.2.2.2 rm_255.2.2.1 rfl rfl rfl (by decide) (ro_kf (kd_163 hL1)) (Nat.le_of_ble_eq_true rfl) (by decide) (by decide) hs2 ?_
  rintro _ M2 ⟨e2, hM2⟩
  rw [e2]
  show ro_w X _ 307 _ 653 [(3, .int (nI (6 * n))), (2, .ref 163), (1, .ref 4), (0, .ref 0)] [.long r, .long r] M2 (190, 79052)
  refine rs_lcmp (r := (0 : Int32)) ri_307_653 rfl (ro_cmp0 r) ?_
  exact rs_if_eq (t := 1524) ri_307_654 rfl rfl (fun _ => hnext M2 hM2) (fun h => absurd rfl h)
/-- case 13: stays -/
theorem lw_c13 (hL : ∀ M, Inv M → ro_lay M) (hM : Inv M) (hX : X.1 ≤ 3072) (hn : 6 * n + 6 ≤ X.1) (heq : ro_eqJ Inv X 105 256 [.int (X.2 (6 * n + 1)), .int (X.2 (6 * n + 2))]) (hnext : ∀ M2, Inv M2 → ro_w X 2000 307 (fun v _ => v = some (.int 1)) 1524 [(3, .int (nI (6 * n))), (2, .ref 163), (1, .ref 4), (0, .ref 0)] [] M2 (190, 79052)) : ro_w X 2000 307 (fun v _ => v = some (.int 1)) 659 [(3, .int (nI (6 * n))), (2, .ref 163), (1, .ref 4), (0, .ref 0)] [] M (190, 79052) := by
  refine rs_aload_n ri_307_659 rfl rfl ?_
  refine rs_aload_n ri_307_660 rfl rfl ?_
  refine rs_iload_n ri_307_661 rfl rfl ?_
  refine rs_iconst (v := (1 : Int32)) ri_307_662 rfl (by decide) ?_
  refine rs_iadd (r := nI (6 * n + 1)) ri_307_663 rfl (ro_ni (6 * n) 1 rfl) ?_
  refine rs_scr ri_307_664 rfl (by omega) hX ?_
  refine rs_aload_n ri_307_665 rfl rfl ?_
  refine rs_iload_n ri_307_666 rfl rfl ?_
  refine rs_iconst (v := (2 : Int32)) ri_307_667 rfl (by decide) ?_
  refine rs_iadd (r := nI (6 * n + 2)) ri_307_668 rfl (ro_ni (6 * n) 2 rfl) ?_
  refine rs_scr ri_307_669 rfl (by omega) hX ?_
  refine rs_virt (As := [.int (X.2 (6 * n + 1)), .int (X.2 (6 * n + 2))]) (r := []) ri_307_670 rfl (by decide) rm_105.2.2.2 rm_105.2.2.1 rfl rfl rfl (by decide) (ro_kf (kd_4 (hL M hM))) (Nat.le_of_ble_eq_true rfl) (by decide) (by decide) (heq M hM) ?_
  rintro _ M1 ⟨hL1, r, e1, hs2⟩
  rw [e1]
  show ro_w X _ 307 _ 673 [(3, .int (nI (6 * n))), (2, .ref 163), (1, .ref 4), (0, .ref 0)] [.long r] M1 (190, 79052)
  refine rs_aload_n ri_307_673 rfl rfl ?_
  refine rs_aload_n ri_307_674 rfl rfl ?_
  refine rs_iload_n ri_307_675 rfl rfl ?_
  refine rs_iconst (v := (1 : Int32)) ri_307_676 rfl (by decide) ?_
  refine rs_iadd (r := nI (6 * n + 1)) ri_307_677 rfl (ro_ni (6 * n) 1 rfl) ?_
  refine rs_scr ri_307_678 rfl (by omega) hX ?_
  refine rs_aload_n ri_307_679 rfl rfl ?_
  refine rs_iload_n ri_307_680 rfl rfl ?_
  refine rs_iconst (v := (2 : Int32)) ri_307_681 rfl (by decide) ?_
  refine rs_iadd (r := nI (6 * n + 2)) ri_307_682 rfl (ro_ni (6 * n) 2 rfl) ?_
  refine rs_scr ri_307_683 rfl (by omega) hX ?_
  refine rs_virt (As := [.int (X.2 (6 * n + 1)), .int (X.2 (6 * n + 2))]) (r := [.long r]) ri_307_684 rfl (by decide) rm_256.2.2.2 rm_256.2.2.1 rfl rfl rfl (by decide) (ro_kf (kd_163 hL1)) (Nat.le_of_ble_eq_true rfl) (by decide) (by decide) hs2 ?_
  rintro _ M2 ⟨e2, hM2⟩
  rw [e2]
  show ro_w X _ 307 _ 687 [(3, .int (nI (6 * n))), (2, .ref 163), (1, .ref 4), (0, .ref 0)] [.long r, .long r] M2 (190, 79052)
  refine rs_lcmp (r := (0 : Int32)) ri_307_687 rfl (ro_cmp0 r) ?_
  exact rs_if_eq (t := 1524) ri_307_688 rfl rfl (fun _ => hnext M2 hM2) (fun h => absurd rfl h)
/-- case 14: hands -/
theorem lw_c14 (hL : ∀ M, Inv M → ro_lay M) (hM : Inv M) (hX : X.1 ≤ 3072) (hn : 6 * n + 6 ≤ X.1) (heq : ro_eqI Inv X 109 259 [.int (X.2 (6 * n + 1)), .int (X.2 (6 * n + 2))]) (hnext : ∀ M2, Inv M2 → ro_w X 2000 307 (fun v _ => v = some (.int 1)) 1524 [(3, .int (nI (6 * n))), (2, .ref 163), (1, .ref 4), (0, .ref 0)] [] M2 (190, 79052)) : ro_w X 2000 307 (fun v _ => v = some (.int 1)) 693 [(3, .int (nI (6 * n))), (2, .ref 163), (1, .ref 4), (0, .ref 0)] [] M (190, 79052) := by
  refine rs_aload_n ri_307_693 rfl rfl ?_
  refine rs_aload_n ri_307_694 rfl rfl ?_
  refine rs_iload_n ri_307_695 rfl rfl ?_
  refine rs_iconst (v := (1 : Int32)) ri_307_696 rfl (by decide) ?_
  refine rs_iadd (r := nI (6 * n + 1)) ri_307_697 rfl (ro_ni (6 * n) 1 rfl) ?_
  refine rs_scr ri_307_698 rfl (by omega) hX ?_
  refine rs_aload_n ri_307_699 rfl rfl ?_
  refine rs_iload_n ri_307_700 rfl rfl ?_
  refine rs_iconst (v := (2 : Int32)) ri_307_701 rfl (by decide) ?_
  refine rs_iadd (r := nI (6 * n + 2)) ri_307_702 rfl (ro_ni (6 * n) 2 rfl) ?_
  refine rs_scr ri_307_703 rfl (by omega) hX ?_
  refine rs_virt (As := [.int (X.2 (6 * n + 1)), .int (X.2 (6 * n + 2))]) (r := []) ri_307_704 rfl (by decide) rm_109.2.2.2 rm_109.2.2.1 rfl rfl rfl (by decide) (ro_kf (kd_4 (hL M hM))) (Nat.le_of_ble_eq_true rfl) (by decide) (by decide) (heq M hM) ?_
  rintro _ M1 ⟨hL1, r, e1, hs2⟩
  rw [e1]
  show ro_w X _ 307 _ 707 [(3, .int (nI (6 * n))), (2, .ref 163), (1, .ref 4), (0, .ref 0)] [.int r] M1 (190, 79052)
  refine rs_aload_n ri_307_707 rfl rfl ?_
  refine rs_aload_n ri_307_708 rfl rfl ?_
  refine rs_iload_n ri_307_709 rfl rfl ?_
  refine rs_iconst (v := (1 : Int32)) ri_307_710 rfl (by decide) ?_
  refine rs_iadd (r := nI (6 * n + 1)) ri_307_711 rfl (ro_ni (6 * n) 1 rfl) ?_
  refine rs_scr ri_307_712 rfl (by omega) hX ?_
  refine rs_aload_n ri_307_713 rfl rfl ?_
  refine rs_iload_n ri_307_714 rfl rfl ?_
  refine rs_iconst (v := (2 : Int32)) ri_307_715 rfl (by decide) ?_
  refine rs_iadd (r := nI (6 * n + 2)) ri_307_716 rfl (ro_ni (6 * n) 2 rfl) ?_
  refine rs_scr ri_307_717 rfl (by omega) hX ?_
  refine rs_virt (As := [.int (X.2 (6 * n + 1)), .int (X.2 (6 * n + 2))]) (r := [.int r]) ri_307_718 rfl (by decide) rm_259.2.2.2 rm_259.2.2.1 rfl rfl rfl (by decide) (ro_kf (kd_163 hL1)) (Nat.le_of_ble_eq_true rfl) (by decide) (by decide) hs2 ?_
  rintro _ M2 ⟨e2, hM2⟩
  rw [e2]
  show ro_w X _ 307 _ 721 [(3, .int (nI (6 * n))), (2, .ref 163), (1, .ref 4), (0, .ref 0)] [.int r, .int r] M2 (190, 79052)
  exact rs_icmp_eq (t := 1524) ri_307_721 rfl rfl (fun _ => hnext M2 hM2) (fun h => absurd rfl h)
/-- case 15: test -/
theorem lw_c15 (hL : ∀ M, Inv M → ro_lay M) (hM : Inv M) (hX : X.1 ≤ 3072) (hn : 6 * n + 6 ≤ X.1) (heq : ro_eqJ Inv X 111 260 [.int (X.2 (6 * n + 1)), .int (X.2 (6 * n + 2)), .int (X.2 (6 * n + 3))]) (hnext : ∀ M2, Inv M2 → ro_w X 2000 307 (fun v _ => v = some (.int 1)) 1524 [(3, .int (nI (6 * n))), (2, .ref 163), (1, .ref 4), (0, .ref 0)] [] M2 (190, 79052)) : ro_w X 2000 307 (fun v _ => v = some (.int 1)) 726 [(3, .int (nI (6 * n))), (2, .ref 163), (1, .ref 4), (0, .ref 0)] [] M (190, 79052) := by
  refine rs_aload_n ri_307_726 rfl rfl ?_
  refine rs_aload_n ri_307_727 rfl rfl ?_
  refine rs_iload_n ri_307_728 rfl rfl ?_
  refine rs_iconst (v := (1 : Int32)) ri_307_729 rfl (by decide) ?_
  refine rs_iadd (r := nI (6 * n + 1)) ri_307_730 rfl (ro_ni (6 * n) 1 rfl) ?_
  refine rs_scr ri_307_731 rfl (by omega) hX ?_
  refine rs_aload_n ri_307_732 rfl rfl ?_
  refine rs_iload_n ri_307_733 rfl rfl ?_
  refine rs_iconst (v := (2 : Int32)) ri_307_734 rfl (by decide) ?_
  refine rs_iadd (r := nI (6 * n + 2)) ri_307_735 rfl (ro_ni (6 * n) 2 rfl) ?_
  refine rs_scr ri_307_736 rfl (by omega) hX ?_
  refine rs_aload_n ri_307_737 rfl rfl ?_
  refine rs_iload_n ri_307_738 rfl rfl ?_
  refine rs_iconst (v := (3 : Int32)) ri_307_739 rfl (by decide) ?_
  refine rs_iadd (r := nI (6 * n + 3)) ri_307_740 rfl (ro_ni (6 * n) 3 rfl) ?_
  refine rs_scr ri_307_741 rfl (by omega) hX ?_
  refine rs_virt (As := [.int (X.2 (6 * n + 1)), .int (X.2 (6 * n + 2)), .int (X.2 (6 * n + 3))]) (r := []) ri_307_742 rfl (by decide) rm_111.2.2.2 rm_111.2.2.1 rfl rfl rfl (by decide) (ro_kf (kd_4 (hL M hM))) (Nat.le_of_ble_eq_true rfl) (by decide) (by decide) (heq M hM) ?_
  rintro _ M1 ⟨hL1, r, e1, hs2⟩
  rw [e1]
  show ro_w X _ 307 _ 745 [(3, .int (nI (6 * n))), (2, .ref 163), (1, .ref 4), (0, .ref 0)] [.long r] M1 (190, 79052)
  refine rs_aload_n ri_307_745 rfl rfl ?_
  refine rs_aload_n ri_307_746 rfl rfl ?_
  refine rs_iload_n ri_307_747 rfl rfl ?_
  refine rs_iconst (v := (1 : Int32)) ri_307_748 rfl (by decide) ?_
  refine rs_iadd (r := nI (6 * n + 1)) ri_307_749 rfl (ro_ni (6 * n) 1 rfl) ?_
  refine rs_scr ri_307_750 rfl (by omega) hX ?_
  refine rs_aload_n ri_307_751 rfl rfl ?_
  refine rs_iload_n ri_307_752 rfl rfl ?_
  refine rs_iconst (v := (2 : Int32)) ri_307_753 rfl (by decide) ?_
  refine rs_iadd (r := nI (6 * n + 2)) ri_307_754 rfl (ro_ni (6 * n) 2 rfl) ?_
  refine rs_scr ri_307_755 rfl (by omega) hX ?_
  refine rs_aload_n ri_307_756 rfl rfl ?_
  refine rs_iload_n ri_307_757 rfl rfl ?_
  refine rs_iconst (v := (3 : Int32)) ri_307_758 rfl (by decide) ?_
  refine rs_iadd (r := nI (6 * n + 3)) ri_307_759 rfl (ro_ni (6 * n) 3 rfl) ?_
  refine rs_scr ri_307_760 rfl (by omega) hX ?_
  refine rs_virt (As := [.int (X.2 (6 * n + 1)), .int (X.2 (6 * n + 2)), .int (X.2 (6 * n + 3))]) (r := [.long r]) ri_307_761 rfl (by decide) rm_260.2.2.2 rm_260.2.2.1 rfl rfl rfl (by decide) (ro_kf (kd_163 hL1)) (Nat.le_of_ble_eq_true rfl) (by decide) (by decide) hs2 ?_
  rintro _ M2 ⟨e2, hM2⟩
  rw [e2]
  show ro_w X _ 307 _ 764 [(3, .int (nI (6 * n))), (2, .ref 163), (1, .ref 4), (0, .ref 0)] [.long r, .long r] M2 (190, 79052)
  refine rs_lcmp (r := (0 : Int32)) ri_307_764 rfl (ro_cmp0 r) ?_
  exact rs_if_eq (t := 1524) ri_307_765 rfl rfl (fun _ => hnext M2 hM2) (fun h => absurd rfl h)
/-- case 16: enough -/
theorem lw_c16 (hL : ∀ M, Inv M → ro_lay M) (hM : Inv M) (hX : X.1 ≤ 3072) (hn : 6 * n + 6 ≤ X.1) (heq : ro_eqI Inv X 114 264 [.int (X.2 (6 * n + 1)), .int (X.2 (6 * n + 2))]) (hnext : ∀ M2, Inv M2 → ro_w X 2000 307 (fun v _ => v = some (.int 1)) 1524 [(3, .int (nI (6 * n))), (2, .ref 163), (1, .ref 4), (0, .ref 0)] [] M2 (190, 79052)) : ro_w X 2000 307 (fun v _ => v = some (.int 1)) 770 [(3, .int (nI (6 * n))), (2, .ref 163), (1, .ref 4), (0, .ref 0)] [] M (190, 79052) := by
  refine rs_aload_n ri_307_770 rfl rfl ?_
  refine rs_aload_n ri_307_771 rfl rfl ?_
  refine rs_iload_n ri_307_772 rfl rfl ?_
  refine rs_iconst (v := (1 : Int32)) ri_307_773 rfl (by decide) ?_
  refine rs_iadd (r := nI (6 * n + 1)) ri_307_774 rfl (ro_ni (6 * n) 1 rfl) ?_
  refine rs_scr ri_307_775 rfl (by omega) hX ?_
  refine rs_aload_n ri_307_776 rfl rfl ?_
  refine rs_iload_n ri_307_777 rfl rfl ?_
  refine rs_iconst (v := (2 : Int32)) ri_307_778 rfl (by decide) ?_
  refine rs_iadd (r := nI (6 * n + 2)) ri_307_779 rfl (ro_ni (6 * n) 2 rfl) ?_
  refine rs_scr ri_307_780 rfl (by omega) hX ?_
  refine rs_virt (As := [.int (X.2 (6 * n + 1)), .int (X.2 (6 * n + 2))]) (r := []) ri_307_781 rfl (by decide) rm_114.2.2.2 rm_114.2.2.1 rfl rfl rfl (by decide) (ro_kf (kd_4 (hL M hM))) (Nat.le_of_ble_eq_true rfl) (by decide) (by decide) (heq M hM) ?_
  rintro _ M1 ⟨hL1, r, e1, hs2⟩
  rw [e1]
  show ro_w X _ 307 _ 784 [(3, .int (nI (6 * n))), (2, .ref 163), (1, .ref 4), (0, .ref 0)] [.int r] M1 (190, 79052)
  refine rs_aload_n ri_307_784 rfl rfl ?_
  refine rs_aload_n ri_307_785 rfl rfl ?_
  refine rs_iload_n ri_307_786 rfl rfl ?_
  refine rs_iconst (v := (1 : Int32)) ri_307_787 rfl (by decide) ?_
  refine rs_iadd (r := nI (6 * n + 1)) ri_307_788 rfl (ro_ni (6 * n) 1 rfl) ?_
  refine rs_scr ri_307_789 rfl (by omega) hX ?_
  refine rs_aload_n ri_307_790 rfl rfl ?_
  refine rs_iload_n ri_307_791 rfl rfl ?_
  refine rs_iconst (v := (2 : Int32)) ri_307_792 rfl (by decide) ?_
  refine rs_iadd (r := nI (6 * n + 2)) ri_307_793 rfl (ro_ni (6 * n) 2 rfl) ?_
  refine rs_scr ri_307_794 rfl (by omega) hX ?_
  refine rs_virt (As := [.int (X.2 (6 * n + 1)), .int (X.2 (6 * n + 2))]) (r := [.int r]) ri_307_795 rfl (by decide) rm_264.2.2.2 rm_264.2.2.1 rfl rfl rfl (by decide) (ro_kf (kd_163 hL1)) (Nat.le_of_ble_eq_true rfl) (by decide) (by decide) hs2 ?_
  rintro _ M2 ⟨e2, hM2⟩
  rw [e2]
  show ro_w X _ 307 _ 798 [(3, .int (nI (6 * n))), (2, .ref 163), (1, .ref 4), (0, .ref 0)] [.int r, .int r] M2 (190, 79052)
  exact rs_icmp_eq (t := 1524) ri_307_798 rfl rfl (fun _ => hnext M2 hM2) (fun h => absurd rfl h)
/-- case 17: honest -/
theorem lw_c17 (hL : ∀ M, Inv M → ro_lay M) (hM : Inv M) (hX : X.1 ≤ 3072) (hn : 6 * n + 6 ≤ X.1) (heq : ro_eqJ Inv X 115 265 [.int (X.2 (6 * n + 1)), .int (X.2 (6 * n + 2)), .int (X.2 (6 * n + 3))]) (hnext : ∀ M2, Inv M2 → ro_w X 2000 307 (fun v _ => v = some (.int 1)) 1524 [(3, .int (nI (6 * n))), (2, .ref 163), (1, .ref 4), (0, .ref 0)] [] M2 (190, 79052)) : ro_w X 2000 307 (fun v _ => v = some (.int 1)) 803 [(3, .int (nI (6 * n))), (2, .ref 163), (1, .ref 4), (0, .ref 0)] [] M (190, 79052) := by
  refine rs_aload_n ri_307_803 rfl rfl ?_
  refine rs_aload_n ri_307_804 rfl rfl ?_
  refine rs_iload_n ri_307_805 rfl rfl ?_
  refine rs_iconst (v := (1 : Int32)) ri_307_806 rfl (by decide) ?_
  refine rs_iadd (r := nI (6 * n + 1)) ri_307_807 rfl (ro_ni (6 * n) 1 rfl) ?_
  refine rs_scr ri_307_808 rfl (by omega) hX ?_
  refine rs_aload_n ri_307_809 rfl rfl ?_
  refine rs_iload_n ri_307_810 rfl rfl ?_
  refine rs_iconst (v := (2 : Int32)) ri_307_811 rfl (by decide) ?_
  refine rs_iadd (r := nI (6 * n + 2)) ri_307_812 rfl (ro_ni (6 * n) 2 rfl) ?_
  refine rs_scr ri_307_813 rfl (by omega) hX ?_
  refine rs_aload_n ri_307_814 rfl rfl ?_
  refine rs_iload_n ri_307_815 rfl rfl ?_
  refine rs_iconst (v := (3 : Int32)) ri_307_816 rfl (by decide) ?_
  refine rs_iadd (r := nI (6 * n + 3)) ri_307_817 rfl (ro_ni (6 * n) 3 rfl) ?_
  refine rs_scr ri_307_818 rfl (by omega) hX ?_
  refine rs_virt (As := [.int (X.2 (6 * n + 1)), .int (X.2 (6 * n + 2)), .int (X.2 (6 * n + 3))]) (r := []) ri_307_819 rfl (by decide) rm_115.2.2.2 rm_115.2.2.1 rfl rfl rfl (by decide) (ro_kf (kd_4 (hL M hM))) (Nat.le_of_ble_eq_true rfl) (by decide) (by decide) (heq M hM) ?_
  rintro _ M1 ⟨hL1, r, e1, hs2⟩
  rw [e1]
  show ro_w X _ 307 _ 822 [(3, .int (nI (6 * n))), (2, .ref 163), (1, .ref 4), (0, .ref 0)] [.long r] M1 (190, 79052)
  refine rs_aload_n ri_307_822 rfl rfl ?_
  refine rs_aload_n ri_307_823 rfl rfl ?_
  refine rs_iload_n ri_307_824 rfl rfl ?_
  refine rs_iconst (v := (1 : Int32)) ri_307_825 rfl (by decide) ?_
  refine rs_iadd (r := nI (6 * n + 1)) ri_307_826 rfl (ro_ni (6 * n) 1 rfl) ?_
  refine rs_scr ri_307_827 rfl (by omega) hX ?_
  refine rs_aload_n ri_307_828 rfl rfl ?_
  refine rs_iload_n ri_307_829 rfl rfl ?_
  refine rs_iconst (v := (2 : Int32)) ri_307_830 rfl (by decide) ?_
  refine rs_iadd (r := nI (6 * n + 2)) ri_307_831 rfl (ro_ni (6 * n) 2 rfl) ?_
  refine rs_scr ri_307_832 rfl (by omega) hX ?_
  refine rs_aload_n ri_307_833 rfl rfl ?_
  refine rs_iload_n ri_307_834 rfl rfl ?_
  refine rs_iconst (v := (3 : Int32)) ri_307_835 rfl (by decide) ?_
  refine rs_iadd (r := nI (6 * n + 3)) ri_307_836 rfl (ro_ni (6 * n) 3 rfl) ?_
  refine rs_scr ri_307_837 rfl (by omega) hX ?_
  refine rs_virt (As := [.int (X.2 (6 * n + 1)), .int (X.2 (6 * n + 2)), .int (X.2 (6 * n + 3))]) (r := [.long r]) ri_307_838 rfl (by decide) rm_265.2.2.2 rm_265.2.2.1 rfl rfl rfl (by decide) (ro_kf (kd_163 hL1)) (Nat.le_of_ble_eq_true rfl) (by decide) (by decide) hs2 ?_
  rintro _ M2 ⟨e2, hM2⟩
  rw [e2]
  show ro_w X _ 307 _ 841 [(3, .int (nI (6 * n))), (2, .ref 163), (1, .ref 4), (0, .ref 0)] [.long r, .long r] M2 (190, 79052)
  refine rs_lcmp (r := (0 : Int32)) ri_307_841 rfl (ro_cmp0 r) ?_
  exact rs_if_eq (t := 1524) ri_307_842 rfl rfl (fun _ => hnext M2 hM2) (fun h => absurd rfl h)
/-- case 18: dowry -/
theorem lw_c18 (hL : ∀ M, Inv M → ro_lay M) (hM : Inv M) (hX : X.1 ≤ 3072) (hn : 6 * n + 6 ≤ X.1) (heq : ro_eqI Inv X 116 266 [.int (X.2 (6 * n + 1)), .int (X.2 (6 * n + 2))]) (hnext : ∀ M2, Inv M2 → ro_w X 2000 307 (fun v _ => v = some (.int 1)) 1524 [(3, .int (nI (6 * n))), (2, .ref 163), (1, .ref 4), (0, .ref 0)] [] M2 (190, 79052)) : ro_w X 2000 307 (fun v _ => v = some (.int 1)) 847 [(3, .int (nI (6 * n))), (2, .ref 163), (1, .ref 4), (0, .ref 0)] [] M (190, 79052) := by
  refine rs_aload_n ri_307_847 rfl rfl ?_
  refine rs_aload_n ri_307_848 rfl rfl ?_
  refine rs_iload_n ri_307_849 rfl rfl ?_
  refine rs_iconst (v := (1 : Int32)) ri_307_850 rfl (by decide) ?_
  refine rs_iadd (r := nI (6 * n + 1)) ri_307_851 rfl (ro_ni (6 * n) 1 rfl) ?_
  refine rs_scr ri_307_852 rfl (by omega) hX ?_
  refine rs_aload_n ri_307_853 rfl rfl ?_
  refine rs_iload_n ri_307_854 rfl rfl ?_
  refine rs_iconst (v := (2 : Int32)) ri_307_855 rfl (by decide) ?_
  refine rs_iadd (r := nI (6 * n + 2)) ri_307_856 rfl (ro_ni (6 * n) 2 rfl) ?_
  refine rs_scr ri_307_857 rfl (by omega) hX ?_
  refine rs_virt (As := [.int (X.2 (6 * n + 1)), .int (X.2 (6 * n + 2))]) (r := []) ri_307_858 rfl (by decide) rm_116.2.2.2 rm_116.2.2.1 rfl rfl rfl (by decide) (ro_kf (kd_4 (hL M hM))) (Nat.le_of_ble_eq_true rfl) (by decide) (by decide) (heq M hM) ?_
  rintro _ M1 ⟨hL1, r, e1, hs2⟩
  rw [e1]
  show ro_w X _ 307 _ 861 [(3, .int (nI (6 * n))), (2, .ref 163), (1, .ref 4), (0, .ref 0)] [.int r] M1 (190, 79052)
  refine rs_aload_n ri_307_861 rfl rfl ?_
  refine rs_aload_n ri_307_862 rfl rfl ?_
  refine rs_iload_n ri_307_863 rfl rfl ?_
  refine rs_iconst (v := (1 : Int32)) ri_307_864 rfl (by decide) ?_
  refine rs_iadd (r := nI (6 * n + 1)) ri_307_865 rfl (ro_ni (6 * n) 1 rfl) ?_
  refine rs_scr ri_307_866 rfl (by omega) hX ?_
  refine rs_aload_n ri_307_867 rfl rfl ?_
  refine rs_iload_n ri_307_868 rfl rfl ?_
  refine rs_iconst (v := (2 : Int32)) ri_307_869 rfl (by decide) ?_
  refine rs_iadd (r := nI (6 * n + 2)) ri_307_870 rfl (ro_ni (6 * n) 2 rfl) ?_
  refine rs_scr ri_307_871 rfl (by omega) hX ?_
  refine rs_virt (As := [.int (X.2 (6 * n + 1)), .int (X.2 (6 * n + 2))]) (r := [.int r]) ri_307_872 rfl (by decide) rm_266.2.2.2 rm_266.2.2.1 rfl rfl rfl (by decide) (ro_kf (kd_163 hL1)) (Nat.le_of_ble_eq_true rfl) (by decide) (by decide) hs2 ?_
  rintro _ M2 ⟨e2, hM2⟩
  rw [e2]
  show ro_w X _ 307 _ 875 [(3, .int (nI (6 * n))), (2, .ref 163), (1, .ref 4), (0, .ref 0)] [.int r, .int r] M2 (190, 79052)
  exact rs_icmp_eq (t := 1524) ri_307_875 rfl rfl (fun _ => hnext M2 hM2) (fun h => absurd rfl h)
/-- case 19: richest -/
theorem lw_c19 (hL : ∀ M, Inv M → ro_lay M) (hM : Inv M) (hX : X.1 ≤ 3072) (hn : 6 * n + 6 ≤ X.1) (heq : ro_eqI Inv X 117 267 [.int (X.2 (6 * n + 1))]) (hnext : ∀ M2, Inv M2 → ro_w X 2000 307 (fun v _ => v = some (.int 1)) 1524 [(3, .int (nI (6 * n))), (2, .ref 163), (1, .ref 4), (0, .ref 0)] [] M2 (190, 79052)) : ro_w X 2000 307 (fun v _ => v = some (.int 1)) 880 [(3, .int (nI (6 * n))), (2, .ref 163), (1, .ref 4), (0, .ref 0)] [] M (190, 79052) := by
  refine rs_aload_n ri_307_880 rfl rfl ?_
  refine rs_aload_n ri_307_881 rfl rfl ?_
  refine rs_iload_n ri_307_882 rfl rfl ?_
  refine rs_iconst (v := (1 : Int32)) ri_307_883 rfl (by decide) ?_
  refine rs_iadd (r := nI (6 * n + 1)) ri_307_884 rfl (ro_ni (6 * n) 1 rfl) ?_
  refine rs_scr ri_307_885 rfl (by omega) hX ?_
  refine rs_virt (As := [.int (X.2 (6 * n + 1))]) (r := []) ri_307_886 rfl (by decide) rm_117.2.2.2 rm_117.2.2.1 rfl rfl rfl (by decide) (ro_kf (kd_4 (hL M hM))) (Nat.le_of_ble_eq_true rfl) (by decide) (by decide) (heq M hM) ?_
  rintro _ M1 ⟨hL1, r, e1, hs2⟩
  rw [e1]
  show ro_w X _ 307 _ 889 [(3, .int (nI (6 * n))), (2, .ref 163), (1, .ref 4), (0, .ref 0)] [.int r] M1 (190, 79052)
  refine rs_aload_n ri_307_889 rfl rfl ?_
  refine rs_aload_n ri_307_890 rfl rfl ?_
  refine rs_iload_n ri_307_891 rfl rfl ?_
  refine rs_iconst (v := (1 : Int32)) ri_307_892 rfl (by decide) ?_
  refine rs_iadd (r := nI (6 * n + 1)) ri_307_893 rfl (ro_ni (6 * n) 1 rfl) ?_
  refine rs_scr ri_307_894 rfl (by omega) hX ?_
  refine rs_virt (As := [.int (X.2 (6 * n + 1))]) (r := [.int r]) ri_307_895 rfl (by decide) rm_267.2.2.2 rm_267.2.2.1 rfl rfl rfl (by decide) (ro_kf (kd_163 hL1)) (Nat.le_of_ble_eq_true rfl) (by decide) (by decide) hs2 ?_
  rintro _ M2 ⟨e2, hM2⟩
  rw [e2]
  show ro_w X _ 307 _ 898 [(3, .int (nI (6 * n))), (2, .ref 163), (1, .ref 4), (0, .ref 0)] [.int r, .int r] M2 (190, 79052)
  exact rs_icmp_eq (t := 1524) ri_307_898 rfl rfl (fun _ => hnext M2 hM2) (fun h => absurd rfl h)
/-- case 20: behind -/
theorem lw_c20 (hL : ∀ M, Inv M → ro_lay M) (hM : Inv M) (hX : X.1 ≤ 3072) (hn : 6 * n + 6 ≤ X.1) (heq : ro_eqI Inv X 119 268 [.int (X.2 (6 * n + 1)), .int (X.2 (6 * n + 2)), .int (X.2 (6 * n + 3))]) (hnext : ∀ M2, Inv M2 → ro_w X 2000 307 (fun v _ => v = some (.int 1)) 1524 [(3, .int (nI (6 * n))), (2, .ref 163), (1, .ref 4), (0, .ref 0)] [] M2 (190, 79052)) : ro_w X 2000 307 (fun v _ => v = some (.int 1)) 903 [(3, .int (nI (6 * n))), (2, .ref 163), (1, .ref 4), (0, .ref 0)] [] M (190, 79052) := by
  refine rs_aload_n ri_307_903 rfl rfl ?_
  refine rs_aload_n ri_307_904 rfl rfl ?_
  refine rs_iload_n ri_307_905 rfl rfl ?_
  refine rs_iconst (v := (1 : Int32)) ri_307_906 rfl (by decide) ?_
  refine rs_iadd (r := nI (6 * n + 1)) ri_307_907 rfl (ro_ni (6 * n) 1 rfl) ?_
  refine rs_scr ri_307_908 rfl (by omega) hX ?_
  refine rs_aload_n ri_307_909 rfl rfl ?_
  refine rs_iload_n ri_307_910 rfl rfl ?_
  refine rs_iconst (v := (2 : Int32)) ri_307_911 rfl (by decide) ?_
  refine rs_iadd (r := nI (6 * n + 2)) ri_307_912 rfl (ro_ni (6 * n) 2 rfl) ?_
  refine rs_scr ri_307_913 rfl (by omega) hX ?_
  refine rs_aload_n ri_307_914 rfl rfl ?_
  refine rs_iload_n ri_307_915 rfl rfl ?_
  refine rs_iconst (v := (3 : Int32)) ri_307_916 rfl (by decide) ?_
  refine rs_iadd (r := nI (6 * n + 3)) ri_307_917 rfl (ro_ni (6 * n) 3 rfl) ?_
  refine rs_scr ri_307_918 rfl (by omega) hX ?_
  refine rs_virt (As := [.int (X.2 (6 * n + 1)), .int (X.2 (6 * n + 2)), .int (X.2 (6 * n + 3))]) (r := []) ri_307_919 rfl (by decide) rm_119.2.2.2 rm_119.2.2.1 rfl rfl rfl (by decide) (ro_kf (kd_4 (hL M hM))) (Nat.le_of_ble_eq_true rfl) (by decide) (by decide) (heq M hM) ?_
  rintro _ M1 ⟨hL1, r, e1, hs2⟩
  rw [e1]
  show ro_w X _ 307 _ 922 [(3, .int (nI (6 * n))), (2, .ref 163), (1, .ref 4), (0, .ref 0)] [.int r] M1 (190, 79052)
  refine rs_aload_n ri_307_922 rfl rfl ?_
  refine rs_aload_n ri_307_923 rfl rfl ?_
  refine rs_iload_n ri_307_924 rfl rfl ?_
  refine rs_iconst (v := (1 : Int32)) ri_307_925 rfl (by decide) ?_
  refine rs_iadd (r := nI (6 * n + 1)) ri_307_926 rfl (ro_ni (6 * n) 1 rfl) ?_
  refine rs_scr ri_307_927 rfl (by omega) hX ?_
  refine rs_aload_n ri_307_928 rfl rfl ?_
  refine rs_iload_n ri_307_929 rfl rfl ?_
  refine rs_iconst (v := (2 : Int32)) ri_307_930 rfl (by decide) ?_
  refine rs_iadd (r := nI (6 * n + 2)) ri_307_931 rfl (ro_ni (6 * n) 2 rfl) ?_
  refine rs_scr ri_307_932 rfl (by omega) hX ?_
  refine rs_aload_n ri_307_933 rfl rfl ?_
  refine rs_iload_n ri_307_934 rfl rfl ?_
  refine rs_iconst (v := (3 : Int32)) ri_307_935 rfl (by decide) ?_
  refine rs_iadd (r := nI (6 * n + 3)) ri_307_936 rfl (ro_ni (6 * n) 3 rfl) ?_
  refine rs_scr ri_307_937 rfl (by omega) hX ?_
  refine rs_virt (As := [.int (X.2 (6 * n + 1)), .int (X.2 (6 * n + 2)), .int (X.2 (6 * n + 3))]) (r := [.int r]) ri_307_938 rfl (by decide) rm_268.2.2.2 rm_268.2.2.1 rfl rfl rfl (by decide) (ro_kf (kd_163 hL1)) (Nat.le_of_ble_eq_true rfl) (by decide) (by decide) hs2 ?_
  rintro _ M2 ⟨e2, hM2⟩
  rw [e2]
  show ro_w X _ 307 _ 941 [(3, .int (nI (6 * n))), (2, .ref 163), (1, .ref 4), (0, .ref 0)] [.int r, .int r] M2 (190, 79052)
  exact rs_icmp_eq (t := 1524) ri_307_941 rfl rfl (fun _ => hnext M2 hM2) (fun h => absurd rfl h)
/-- case 21: drawn -/
theorem lw_c21 (hL : ∀ M, Inv M → ro_lay M) (hM : Inv M) (hX : X.1 ≤ 3072) (hn : 6 * n + 6 ≤ X.1) (heq : ro_eqI Inv X 140 273 [.int (X.2 (6 * n + 1)), .int (X.2 (6 * n + 2)), .int (X.2 (6 * n + 3))]) (hnext : ∀ M2, Inv M2 → ro_w X 2000 307 (fun v _ => v = some (.int 1)) 1524 [(3, .int (nI (6 * n))), (2, .ref 163), (1, .ref 4), (0, .ref 0)] [] M2 (190, 79052)) : ro_w X 2000 307 (fun v _ => v = some (.int 1)) 946 [(3, .int (nI (6 * n))), (2, .ref 163), (1, .ref 4), (0, .ref 0)] [] M (190, 79052) := by
  refine rs_aload_n ri_307_946 rfl rfl ?_
  refine rs_aload_n ri_307_947 rfl rfl ?_
  refine rs_iload_n ri_307_948 rfl rfl ?_
  refine rs_iconst (v := (1 : Int32)) ri_307_949 rfl (by decide) ?_
  refine rs_iadd (r := nI (6 * n + 1)) ri_307_950 rfl (ro_ni (6 * n) 1 rfl) ?_
  refine rs_scr ri_307_951 rfl (by omega) hX ?_
  refine rs_aload_n ri_307_952 rfl rfl ?_
  refine rs_iload_n ri_307_953 rfl rfl ?_
  refine rs_iconst (v := (2 : Int32)) ri_307_954 rfl (by decide) ?_
  refine rs_iadd (r := nI (6 * n + 2)) ri_307_955 rfl (ro_ni (6 * n) 2 rfl) ?_
  refine rs_scr ri_307_956 rfl (by omega) hX ?_
  refine rs_aload_n ri_307_957 rfl rfl ?_
  refine rs_iload_n ri_307_958 rfl rfl ?_
  refine rs_iconst (v := (3 : Int32)) ri_307_959 rfl (by decide) ?_
  refine rs_iadd (r := nI (6 * n + 3)) ri_307_960 rfl (ro_ni (6 * n) 3 rfl) ?_
  refine rs_scr ri_307_961 rfl (by omega) hX ?_
  refine rs_virt (As := [.int (X.2 (6 * n + 1)), .int (X.2 (6 * n + 2)), .int (X.2 (6 * n + 3))]) (r := []) ri_307_962 rfl (by decide) rm_140.2.2.2 rm_140.2.2.1 rfl rfl rfl (by decide) (ro_kf (kd_4 (hL M hM))) (Nat.le_of_ble_eq_true rfl) (by decide) (by decide) (heq M hM) ?_
  rintro _ M1 ⟨hL1, r, e1, hs2⟩
  rw [e1]
  show ro_w X _ 307 _ 965 [(3, .int (nI (6 * n))), (2, .ref 163), (1, .ref 4), (0, .ref 0)] [.int r] M1 (190, 79052)
  refine rs_aload_n ri_307_965 rfl rfl ?_
  refine rs_aload_n ri_307_966 rfl rfl ?_
  refine rs_iload_n ri_307_967 rfl rfl ?_
  refine rs_iconst (v := (1 : Int32)) ri_307_968 rfl (by decide) ?_
  refine rs_iadd (r := nI (6 * n + 1)) ri_307_969 rfl (ro_ni (6 * n) 1 rfl) ?_
  refine rs_scr ri_307_970 rfl (by omega) hX ?_
  refine rs_aload_n ri_307_971 rfl rfl ?_
  refine rs_iload_n ri_307_972 rfl rfl ?_
  refine rs_iconst (v := (2 : Int32)) ri_307_973 rfl (by decide) ?_
  refine rs_iadd (r := nI (6 * n + 2)) ri_307_974 rfl (ro_ni (6 * n) 2 rfl) ?_
  refine rs_scr ri_307_975 rfl (by omega) hX ?_
  refine rs_aload_n ri_307_976 rfl rfl ?_
  refine rs_iload_n ri_307_977 rfl rfl ?_
  refine rs_iconst (v := (3 : Int32)) ri_307_978 rfl (by decide) ?_
  refine rs_iadd (r := nI (6 * n + 3)) ri_307_979 rfl (ro_ni (6 * n) 3 rfl) ?_
  refine rs_scr ri_307_980 rfl (by omega) hX ?_
  refine rs_virt (As := [.int (X.2 (6 * n + 1)), .int (X.2 (6 * n + 2)), .int (X.2 (6 * n + 3))]) (r := [.int r]) ri_307_981 rfl (by decide) rm_273.2.2.2 rm_273.2.2.1 rfl rfl rfl (by decide) (ro_kf (kd_163 hL1)) (Nat.le_of_ble_eq_true rfl) (by decide) (by decide) hs2 ?_
  rintro _ M2 ⟨e2, hM2⟩
  rw [e2]
  show ro_w X _ 307 _ 984 [(3, .int (nI (6 * n))), (2, .ref 163), (1, .ref 4), (0, .ref 0)] [.int r, .int r] M2 (190, 79052)
  exact rs_icmp_eq (t := 1524) ri_307_984 rfl rfl (fun _ => hnext M2 hM2) (fun h => absurd rfl h)
/-- case 22: offer -/
theorem lw_c22 (hL : ∀ M, Inv M → ro_lay M) (hM : Inv M) (hX : X.1 ≤ 3072) (hn : 6 * n + 6 ≤ X.1) (heq : ro_eqI Inv X 144 274 [.int (X.2 (6 * n + 1)), .int (X.2 (6 * n + 2))]) (hnext : ∀ M2, Inv M2 → ro_w X 2000 307 (fun v _ => v = some (.int 1)) 1524 [(3, .int (nI (6 * n))), (2, .ref 163), (1, .ref 4), (0, .ref 0)] [] M2 (190, 79052)) : ro_w X 2000 307 (fun v _ => v = some (.int 1)) 989 [(3, .int (nI (6 * n))), (2, .ref 163), (1, .ref 4), (0, .ref 0)] [] M (190, 79052) := by
  refine rs_aload_n ri_307_989 rfl rfl ?_
  refine rs_aload_n ri_307_990 rfl rfl ?_
  refine rs_iload_n ri_307_991 rfl rfl ?_
  refine rs_iconst (v := (1 : Int32)) ri_307_992 rfl (by decide) ?_
  refine rs_iadd (r := nI (6 * n + 1)) ri_307_993 rfl (ro_ni (6 * n) 1 rfl) ?_
  refine rs_scr ri_307_994 rfl (by omega) hX ?_
  refine rs_aload_n ri_307_995 rfl rfl ?_
  refine rs_iload_n ri_307_996 rfl rfl ?_
  refine rs_iconst (v := (2 : Int32)) ri_307_997 rfl (by decide) ?_
  refine rs_iadd (r := nI (6 * n + 2)) ri_307_998 rfl (ro_ni (6 * n) 2 rfl) ?_
  refine rs_scr ri_307_999 rfl (by omega) hX ?_
  refine rs_virt (As := [.int (X.2 (6 * n + 1)), .int (X.2 (6 * n + 2))]) (r := []) ri_307_1000 rfl (by decide) rm_144.2.2.2 rm_144.2.2.1 rfl rfl rfl (by decide) (ro_kf (kd_4 (hL M hM))) (Nat.le_of_ble_eq_true rfl) (by decide) (by decide) (heq M hM) ?_
  rintro _ M1 ⟨hL1, r, e1, hs2⟩
  rw [e1]
  show ro_w X _ 307 _ 1003 [(3, .int (nI (6 * n))), (2, .ref 163), (1, .ref 4), (0, .ref 0)] [.int r] M1 (190, 79052)
  refine rs_aload_n ri_307_1003 rfl rfl ?_
  refine rs_aload_n ri_307_1004 rfl rfl ?_
  refine rs_iload_n ri_307_1005 rfl rfl ?_
  refine rs_iconst (v := (1 : Int32)) ri_307_1006 rfl (by decide) ?_
  refine rs_iadd (r := nI (6 * n + 1)) ri_307_1007 rfl (ro_ni (6 * n) 1 rfl) ?_
  refine rs_scr ri_307_1008 rfl (by omega) hX ?_
  refine rs_aload_n ri_307_1009 rfl rfl ?_
  refine rs_iload_n ri_307_1010 rfl rfl ?_
  refine rs_iconst (v := (2 : Int32)) ri_307_1011 rfl (by decide) ?_
  refine rs_iadd (r := nI (6 * n + 2)) ri_307_1012 rfl (ro_ni (6 * n) 2 rfl) ?_
  refine rs_scr ri_307_1013 rfl (by omega) hX ?_
  refine rs_virt (As := [.int (X.2 (6 * n + 1)), .int (X.2 (6 * n + 2))]) (r := [.int r]) ri_307_1014 rfl (by decide) rm_274.2.2.2 rm_274.2.2.1 rfl rfl rfl (by decide) (ro_kf (kd_163 hL1)) (Nat.le_of_ble_eq_true rfl) (by decide) (by decide) hs2 ?_
  rintro _ M2 ⟨e2, hM2⟩
  rw [e2]
  show ro_w X _ 307 _ 1017 [(3, .int (nI (6 * n))), (2, .ref 163), (1, .ref 4), (0, .ref 0)] [.int r, .int r] M2 (190, 79052)
  exact rs_icmp_eq (t := 1524) ri_307_1017 rfl rfl (fun _ => hnext M2 hM2) (fun h => absurd rfl h)
/-- case 23: mint -/
theorem lw_c23 (hL : ∀ M, Inv M → ro_lay M) (hM : Inv M) (hX : X.1 ≤ 3072) (hn : 6 * n + 6 ≤ X.1) (heq : ro_eqI Inv X 146 276 [.int (X.2 (6 * n + 1))]) (hnext : ∀ M2, Inv M2 → ro_w X 2000 307 (fun v _ => v = some (.int 1)) 1524 [(3, .int (nI (6 * n))), (2, .ref 163), (1, .ref 4), (0, .ref 0)] [] M2 (190, 79052)) : ro_w X 2000 307 (fun v _ => v = some (.int 1)) 1022 [(3, .int (nI (6 * n))), (2, .ref 163), (1, .ref 4), (0, .ref 0)] [] M (190, 79052) := by
  refine rs_aload_n ri_307_1022 rfl rfl ?_
  refine rs_aload_n ri_307_1023 rfl rfl ?_
  refine rs_iload_n ri_307_1024 rfl rfl ?_
  refine rs_iconst (v := (1 : Int32)) ri_307_1025 rfl (by decide) ?_
  refine rs_iadd (r := nI (6 * n + 1)) ri_307_1026 rfl (ro_ni (6 * n) 1 rfl) ?_
  refine rs_scr ri_307_1027 rfl (by omega) hX ?_
  refine rs_virt (As := [.int (X.2 (6 * n + 1))]) (r := []) ri_307_1028 rfl (by decide) rm_146.2.2.2 rm_146.2.2.1 rfl rfl rfl (by decide) (ro_kf (kd_4 (hL M hM))) (Nat.le_of_ble_eq_true rfl) (by decide) (by decide) (heq M hM) ?_
  rintro _ M1 ⟨hL1, r, e1, hs2⟩
  rw [e1]
  show ro_w X _ 307 _ 1031 [(3, .int (nI (6 * n))), (2, .ref 163), (1, .ref 4), (0, .ref 0)] [.int r] M1 (190, 79052)
  refine rs_aload_n ri_307_1031 rfl rfl ?_
  refine rs_aload_n ri_307_1032 rfl rfl ?_
  refine rs_iload_n ri_307_1033 rfl rfl ?_
  refine rs_iconst (v := (1 : Int32)) ri_307_1034 rfl (by decide) ?_
  refine rs_iadd (r := nI (6 * n + 1)) ri_307_1035 rfl (ro_ni (6 * n) 1 rfl) ?_
  refine rs_scr ri_307_1036 rfl (by omega) hX ?_
  refine rs_virt (As := [.int (X.2 (6 * n + 1))]) (r := [.int r]) ri_307_1037 rfl (by decide) rm_276.2.2.2 rm_276.2.2.1 rfl rfl rfl (by decide) (ro_kf (kd_163 hL1)) (Nat.le_of_ble_eq_true rfl) (by decide) (by decide) hs2 ?_
  rintro _ M2 ⟨e2, hM2⟩
  rw [e2]
  show ro_w X _ 307 _ 1040 [(3, .int (nI (6 * n))), (2, .ref 163), (1, .ref 4), (0, .ref 0)] [.int r, .int r] M2 (190, 79052)
  exact rs_icmp_eq (t := 1524) ri_307_1040 rfl rfl (fun _ => hnext M2 hM2) (fun h => absurd rfl h)
/-- case 24: hour -/
theorem lw_c24 (hL : ∀ M, Inv M → ro_lay M) (hM : Inv M) (hX : X.1 ≤ 3072) (hn : 6 * n + 6 ≤ X.1) (heq : ro_eqI Inv X 147 277 []) (hnext : ∀ M2, Inv M2 → ro_w X 2000 307 (fun v _ => v = some (.int 1)) 1524 [(3, .int (nI (6 * n))), (2, .ref 163), (1, .ref 4), (0, .ref 0)] [] M2 (190, 79052)) : ro_w X 2000 307 (fun v _ => v = some (.int 1)) 1045 [(3, .int (nI (6 * n))), (2, .ref 163), (1, .ref 4), (0, .ref 0)] [] M (190, 79052) := by
  refine rs_aload_n ri_307_1045 rfl rfl ?_
  refine rs_virt (As := []) (r := []) ri_307_1046 rfl (by decide) rm_147.2.2.2 rm_147.2.2.1 rfl rfl rfl (by decide) (ro_kf (kd_4 (hL M hM))) (Nat.le_of_ble_eq_true rfl) (by decide) (by decide) (heq M hM) ?_
  rintro _ M1 ⟨hL1, r, e1, hs2⟩
  rw [e1]
  show ro_w X _ 307 _ 1049 [(3, .int (nI (6 * n))), (2, .ref 163), (1, .ref 4), (0, .ref 0)] [.int r] M1 (190, 79052)
  refine rs_aload_n ri_307_1049 rfl rfl ?_
  refine rs_virt (As := []) (r := [.int r]) ri_307_1050 rfl (by decide) rm_277.2.2.2 rm_277.2.2.1 rfl rfl rfl (by decide) (ro_kf (kd_163 hL1)) (Nat.le_of_ble_eq_true rfl) (by decide) (by decide) hs2 ?_
  rintro _ M2 ⟨e2, hM2⟩
  rw [e2]
  show ro_w X _ 307 _ 1053 [(3, .int (nI (6 * n))), (2, .ref 163), (1, .ref 4), (0, .ref 0)] [.int r, .int r] M2 (190, 79052)
  exact rs_icmp_eq (t := 1524) ri_307_1053 rfl rfl (fun _ => hnext M2 hM2) (fun h => absurd rfl h)
/-- case 25: led -/
theorem lw_c25 (hL : ∀ M, Inv M → ro_lay M) (hM : Inv M) (hX : X.1 ≤ 3072) (hn : 6 * n + 6 ≤ X.1) (heq : ro_eqI Inv X 148 278 [.int (X.2 (6 * n + 1))]) (hnext : ∀ M2, Inv M2 → ro_w X 2000 307 (fun v _ => v = some (.int 1)) 1524 [(3, .int (nI (6 * n))), (2, .ref 163), (1, .ref 4), (0, .ref 0)] [] M2 (190, 79052)) : ro_w X 2000 307 (fun v _ => v = some (.int 1)) 1058 [(3, .int (nI (6 * n))), (2, .ref 163), (1, .ref 4), (0, .ref 0)] [] M (190, 79052) := by
  refine rs_aload_n ri_307_1058 rfl rfl ?_
  refine rs_aload_n ri_307_1059 rfl rfl ?_
  refine rs_iload_n ri_307_1060 rfl rfl ?_
  refine rs_iconst (v := (1 : Int32)) ri_307_1061 rfl (by decide) ?_
  refine rs_iadd (r := nI (6 * n + 1)) ri_307_1062 rfl (ro_ni (6 * n) 1 rfl) ?_
  refine rs_scr ri_307_1063 rfl (by omega) hX ?_
  refine rs_virt (As := [.int (X.2 (6 * n + 1))]) (r := []) ri_307_1064 rfl (by decide) rm_148.2.2.2 rm_148.2.2.1 rfl rfl rfl (by decide) (ro_kf (kd_4 (hL M hM))) (Nat.le_of_ble_eq_true rfl) (by decide) (by decide) (heq M hM) ?_
  rintro _ M1 ⟨hL1, r, e1, hs2⟩
  rw [e1]
  show ro_w X _ 307 _ 1067 [(3, .int (nI (6 * n))), (2, .ref 163), (1, .ref 4), (0, .ref 0)] [.int r] M1 (190, 79052)
  refine rs_aload_n ri_307_1067 rfl rfl ?_
  refine rs_aload_n ri_307_1068 rfl rfl ?_
  refine rs_iload_n ri_307_1069 rfl rfl ?_
  refine rs_iconst (v := (1 : Int32)) ri_307_1070 rfl (by decide) ?_
  refine rs_iadd (r := nI (6 * n + 1)) ri_307_1071 rfl (ro_ni (6 * n) 1 rfl) ?_
  refine rs_scr ri_307_1072 rfl (by omega) hX ?_
  refine rs_virt (As := [.int (X.2 (6 * n + 1))]) (r := [.int r]) ri_307_1073 rfl (by decide) rm_278.2.2.2 rm_278.2.2.1 rfl rfl rfl (by decide) (ro_kf (kd_163 hL1)) (Nat.le_of_ble_eq_true rfl) (by decide) (by decide) hs2 ?_
  rintro _ M2 ⟨e2, hM2⟩
  rw [e2]
  show ro_w X _ 307 _ 1076 [(3, .int (nI (6 * n))), (2, .ref 163), (1, .ref 4), (0, .ref 0)] [.int r, .int r] M2 (190, 79052)
  exact rs_icmp_eq (t := 1524) ri_307_1076 rfl rfl (fun _ => hnext M2 hM2) (fun h => absurd rfl h)
/-- case 26: image -/
theorem lw_c26 (hL : ∀ M, Inv M → ro_lay M) (hM : Inv M) (hX : X.1 ≤ 3072) (hn : 6 * n + 6 ≤ X.1) (heq : ro_eqI Inv X 150 279 []) (hnext : ∀ M2, Inv M2 → ro_w X 2000 307 (fun v _ => v = some (.int 1)) 1524 [(3, .int (nI (6 * n))), (2, .ref 163), (1, .ref 4), (0, .ref 0)] [] M2 (190, 79052)) : ro_w X 2000 307 (fun v _ => v = some (.int 1)) 1081 [(3, .int (nI (6 * n))), (2, .ref 163), (1, .ref 4), (0, .ref 0)] [] M (190, 79052) := by
  refine rs_aload_n ri_307_1081 rfl rfl ?_
  refine rs_virt (As := []) (r := []) ri_307_1082 rfl (by decide) rm_150.2.2.2 rm_150.2.2.1 rfl rfl rfl (by decide) (ro_kf (kd_4 (hL M hM))) (Nat.le_of_ble_eq_true rfl) (by decide) (by decide) (heq M hM) ?_
  rintro _ M1 ⟨hL1, r, e1, hs2⟩
  rw [e1]
  show ro_w X _ 307 _ 1085 [(3, .int (nI (6 * n))), (2, .ref 163), (1, .ref 4), (0, .ref 0)] [.int r] M1 (190, 79052)
  refine rs_aload_n ri_307_1085 rfl rfl ?_
  refine rs_virt (As := []) (r := [.int r]) ri_307_1086 rfl (by decide) rm_279.2.2.2 rm_279.2.2.1 rfl rfl rfl (by decide) (ro_kf (kd_163 hL1)) (Nat.le_of_ble_eq_true rfl) (by decide) (by decide) hs2 ?_
  rintro _ M2 ⟨e2, hM2⟩
  rw [e2]
  show ro_w X _ 307 _ 1089 [(3, .int (nI (6 * n))), (2, .ref 163), (1, .ref 4), (0, .ref 0)] [.int r, .int r] M2 (190, 79052)
  exact rs_icmp_eq (t := 1524) ri_307_1089 rfl rfl (fun _ => hnext M2 hM2) (fun h => absurd rfl h)
/-- case 27: back -/
theorem lw_c27 (hL : ∀ M, Inv M → ro_lay M) (hM : Inv M) (hX : X.1 ≤ 3072) (hn : 6 * n + 6 ≤ X.1) (heq : ro_eqI Inv X 152 280 []) (hnext : ∀ M2, Inv M2 → ro_w X 2000 307 (fun v _ => v = some (.int 1)) 1524 [(3, .int (nI (6 * n))), (2, .ref 163), (1, .ref 4), (0, .ref 0)] [] M2 (190, 79052)) : ro_w X 2000 307 (fun v _ => v = some (.int 1)) 1094 [(3, .int (nI (6 * n))), (2, .ref 163), (1, .ref 4), (0, .ref 0)] [] M (190, 79052) := by
  refine rs_aload_n ri_307_1094 rfl rfl ?_
  refine rs_virt (As := []) (r := []) ri_307_1095 rfl (by decide) rm_152.2.2.2 rm_152.2.2.1 rfl rfl rfl (by decide) (ro_kf (kd_4 (hL M hM))) (Nat.le_of_ble_eq_true rfl) (by decide) (by decide) (heq M hM) ?_
  rintro _ M1 ⟨hL1, r, e1, hs2⟩
  rw [e1]
  show ro_w X _ 307 _ 1098 [(3, .int (nI (6 * n))), (2, .ref 163), (1, .ref 4), (0, .ref 0)] [.int r] M1 (190, 79052)
  refine rs_aload_n ri_307_1098 rfl rfl ?_
  refine rs_virt (As := []) (r := [.int r]) ri_307_1099 rfl (by decide) rm_280.2.2.2 rm_280.2.2.1 rfl rfl rfl (by decide) (ro_kf (kd_163 hL1)) (Nat.le_of_ble_eq_true rfl) (by decide) (by decide) hs2 ?_
  rintro _ M2 ⟨e2, hM2⟩
  rw [e2]
  show ro_w X _ 307 _ 1102 [(3, .int (nI (6 * n))), (2, .ref 163), (1, .ref 4), (0, .ref 0)] [.int r, .int r] M2 (190, 79052)
  exact rs_icmp_eq (t := 1524) ri_307_1102 rfl rfl (fun _ => hnext M2 hM2) (fun h => absurd rfl h)
/-- case 28: undo -/
theorem lw_c28 (hL : ∀ M, Inv M → ro_lay M) (hM : Inv M) (hX : X.1 ≤ 3072) (hn : 6 * n + 6 ≤ X.1) (heq : ro_eqI Inv X 154 199 []) (hnext : ∀ M2, Inv M2 → ro_w X 2000 307 (fun v _ => v = some (.int 1)) 1524 [(3, .int (nI (6 * n))), (2, .ref 163), (1, .ref 4), (0, .ref 0)] [] M2 (190, 79052)) : ro_w X 2000 307 (fun v _ => v = some (.int 1)) 1107 [(3, .int (nI (6 * n))), (2, .ref 163), (1, .ref 4), (0, .ref 0)] [] M (190, 79052) := by
  refine rs_aload_n ri_307_1107 rfl rfl ?_
  refine rs_virt (As := []) (r := []) ri_307_1108 rfl (by decide) rm_154.2.2.2 rm_154.2.2.1 rfl rfl rfl (by decide) (ro_kf (kd_4 (hL M hM))) (Nat.le_of_ble_eq_true rfl) (by decide) (by decide) (heq M hM) ?_
  rintro _ M1 ⟨hL1, r, e1, hs2⟩
  rw [e1]
  show ro_w X _ 307 _ 1111 [(3, .int (nI (6 * n))), (2, .ref 163), (1, .ref 4), (0, .ref 0)] [.int r] M1 (190, 79052)
  refine rs_aload_n ri_307_1111 rfl rfl ?_
  refine rs_virt (As := []) (r := [.int r]) ri_307_1112 rfl (by decide) rm_199.2.2.2 rm_199.2.2.1 rfl rfl rfl (by decide) (ro_kf (kd_163 hL1)) (Nat.le_of_ble_eq_true rfl) (by decide) (by decide) hs2 ?_
  rintro _ M2 ⟨e2, hM2⟩
  rw [e2]
  show ro_w X _ 307 _ 1115 [(3, .int (nI (6 * n))), (2, .ref 163), (1, .ref 4), (0, .ref 0)] [.int r, .int r] M2 (190, 79052)
  exact rs_icmp_eq (t := 1524) ri_307_1115 rfl rfl (fun _ => hnext M2 hM2) (fun h => absurd rfl h)
/-- case 29: redo -/
theorem lw_c29 (hL : ∀ M, Inv M → ro_lay M) (hM : Inv M) (hX : X.1 ≤ 3072) (hn : 6 * n + 6 ≤ X.1) (heq : ro_eqI Inv X 157 201 []) (hnext : ∀ M2, Inv M2 → ro_w X 2000 307 (fun v _ => v = some (.int 1)) 1524 [(3, .int (nI (6 * n))), (2, .ref 163), (1, .ref 4), (0, .ref 0)] [] M2 (190, 79052)) : ro_w X 2000 307 (fun v _ => v = some (.int 1)) 1120 [(3, .int (nI (6 * n))), (2, .ref 163), (1, .ref 4), (0, .ref 0)] [] M (190, 79052) := by
  refine rs_aload_n ri_307_1120 rfl rfl ?_
  refine rs_virt (As := []) (r := []) ri_307_1121 rfl (by decide) rm_157.2.2.2 rm_157.2.2.1 rfl rfl rfl (by decide) (ro_kf (kd_4 (hL M hM))) (Nat.le_of_ble_eq_true rfl) (by decide) (by decide) (heq M hM) ?_
  rintro _ M1 ⟨hL1, r, e1, hs2⟩
  rw [e1]
  show ro_w X _ 307 _ 1124 [(3, .int (nI (6 * n))), (2, .ref 163), (1, .ref 4), (0, .ref 0)] [.int r] M1 (190, 79052)
  refine rs_aload_n ri_307_1124 rfl rfl ?_
  refine rs_virt (As := []) (r := [.int r]) ri_307_1125 rfl (by decide) rm_201.2.2.2 rm_201.2.2.1 rfl rfl rfl (by decide) (ro_kf (kd_163 hL1)) (Nat.le_of_ble_eq_true rfl) (by decide) (by decide) hs2 ?_
  rintro _ M2 ⟨e2, hM2⟩
  rw [e2]
  show ro_w X _ 307 _ 1128 [(3, .int (nI (6 * n))), (2, .ref 163), (1, .ref 4), (0, .ref 0)] [.int r, .int r] M2 (190, 79052)
  exact rs_icmp_eq (t := 1524) ri_307_1128 rfl rfl (fun _ => hnext M2 hM2) (fun h => absurd rfl h)
/-- case 30: body -/
theorem lw_c30 (hL : ∀ M, Inv M → ro_lay M) (hM : Inv M) (hX : X.1 ≤ 3072) (hn : 6 * n + 6 ≤ X.1) (heq : ro_eqI Inv X 160 282 [.int (X.2 (6 * n + 1))]) (hnext : ∀ M2, Inv M2 → ro_w X 2000 307 (fun v _ => v = some (.int 1)) 1524 [(3, .int (nI (6 * n))), (2, .ref 163), (1, .ref 4), (0, .ref 0)] [] M2 (190, 79052)) : ro_w X 2000 307 (fun v _ => v = some (.int 1)) 1133 [(3, .int (nI (6 * n))), (2, .ref 163), (1, .ref 4), (0, .ref 0)] [] M (190, 79052) := by
  refine rs_aload_n ri_307_1133 rfl rfl ?_
  refine rs_aload_n ri_307_1134 rfl rfl ?_
  refine rs_iload_n ri_307_1135 rfl rfl ?_
  refine rs_iconst (v := (1 : Int32)) ri_307_1136 rfl (by decide) ?_
  refine rs_iadd (r := nI (6 * n + 1)) ri_307_1137 rfl (ro_ni (6 * n) 1 rfl) ?_
  refine rs_scr ri_307_1138 rfl (by omega) hX ?_
  refine rs_virt (As := [.int (X.2 (6 * n + 1))]) (r := []) ri_307_1139 rfl (by decide) rm_160.2.2.2 rm_160.2.2.1 rfl rfl rfl (by decide) (ro_kf (kd_4 (hL M hM))) (Nat.le_of_ble_eq_true rfl) (by decide) (by decide) (heq M hM) ?_
  rintro _ M1 ⟨hL1, r, e1, hs2⟩
  rw [e1]
  show ro_w X _ 307 _ 1142 [(3, .int (nI (6 * n))), (2, .ref 163), (1, .ref 4), (0, .ref 0)] [.int r] M1 (190, 79052)
  refine rs_aload_n ri_307_1142 rfl rfl ?_
  refine rs_aload_n ri_307_1143 rfl rfl ?_
  refine rs_iload_n ri_307_1144 rfl rfl ?_
  refine rs_iconst (v := (1 : Int32)) ri_307_1145 rfl (by decide) ?_
  refine rs_iadd (r := nI (6 * n + 1)) ri_307_1146 rfl (ro_ni (6 * n) 1 rfl) ?_
  refine rs_scr ri_307_1147 rfl (by omega) hX ?_
  refine rs_virt (As := [.int (X.2 (6 * n + 1))]) (r := [.int r]) ri_307_1148 rfl (by decide) rm_282.2.2.2 rm_282.2.2.1 rfl rfl rfl (by decide) (ro_kf (kd_163 hL1)) (Nat.le_of_ble_eq_true rfl) (by decide) (by decide) hs2 ?_
  rintro _ M2 ⟨e2, hM2⟩
  rw [e2]
  show ro_w X _ 307 _ 1151 [(3, .int (nI (6 * n))), (2, .ref 163), (1, .ref 4), (0, .ref 0)] [.int r, .int r] M2 (190, 79052)
  exact rs_icmp_eq (t := 1524) ri_307_1151 rfl rfl (fun _ => hnext M2 hM2) (fun h => absurd rfl h)
/-- case 31: act -/
theorem lw_c31 (hL : ∀ M, Inv M → ro_lay M) (hM : Inv M) (hX : X.1 ≤ 3072) (hn : 6 * n + 6 ≤ X.1) (heq : ro_eqI Inv X 164 283 [.int (X.2 (6 * n + 1)), .int (X.2 (6 * n + 2)), .int (X.2 (6 * n + 3))]) (hnext : ∀ M2, Inv M2 → ro_w X 2000 307 (fun v _ => v = some (.int 1)) 1524 [(3, .int (nI (6 * n))), (2, .ref 163), (1, .ref 4), (0, .ref 0)] [] M2 (190, 79052)) : ro_w X 2000 307 (fun v _ => v = some (.int 1)) 1156 [(3, .int (nI (6 * n))), (2, .ref 163), (1, .ref 4), (0, .ref 0)] [] M (190, 79052) := by
  refine rs_aload_n ri_307_1156 rfl rfl ?_
  refine rs_aload_n ri_307_1157 rfl rfl ?_
  refine rs_iload_n ri_307_1158 rfl rfl ?_
  refine rs_iconst (v := (1 : Int32)) ri_307_1159 rfl (by decide) ?_
  refine rs_iadd (r := nI (6 * n + 1)) ri_307_1160 rfl (ro_ni (6 * n) 1 rfl) ?_
  refine rs_scr ri_307_1161 rfl (by omega) hX ?_
  refine rs_aload_n ri_307_1162 rfl rfl ?_
  refine rs_iload_n ri_307_1163 rfl rfl ?_
  refine rs_iconst (v := (2 : Int32)) ri_307_1164 rfl (by decide) ?_
  refine rs_iadd (r := nI (6 * n + 2)) ri_307_1165 rfl (ro_ni (6 * n) 2 rfl) ?_
  refine rs_scr ri_307_1166 rfl (by omega) hX ?_
  refine rs_aload_n ri_307_1167 rfl rfl ?_
  refine rs_iload_n ri_307_1168 rfl rfl ?_
  refine rs_iconst (v := (3 : Int32)) ri_307_1169 rfl (by decide) ?_
  refine rs_iadd (r := nI (6 * n + 3)) ri_307_1170 rfl (ro_ni (6 * n) 3 rfl) ?_
  refine rs_scr ri_307_1171 rfl (by omega) hX ?_
  refine rs_virt (As := [.int (X.2 (6 * n + 1)), .int (X.2 (6 * n + 2)), .int (X.2 (6 * n + 3))]) (r := []) ri_307_1172 rfl (by decide) rm_164.2.2.2 rm_164.2.2.1 rfl rfl rfl (by decide) (ro_kf (kd_4 (hL M hM))) (Nat.le_of_ble_eq_true rfl) (by decide) (by decide) (heq M hM) ?_
  rintro _ M1 ⟨hL1, r, e1, hs2⟩
  rw [e1]
  show ro_w X _ 307 _ 1175 [(3, .int (nI (6 * n))), (2, .ref 163), (1, .ref 4), (0, .ref 0)] [.int r] M1 (190, 79052)
  refine rs_aload_n ri_307_1175 rfl rfl ?_
  refine rs_aload_n ri_307_1176 rfl rfl ?_
  refine rs_iload_n ri_307_1177 rfl rfl ?_
  refine rs_iconst (v := (1 : Int32)) ri_307_1178 rfl (by decide) ?_
  refine rs_iadd (r := nI (6 * n + 1)) ri_307_1179 rfl (ro_ni (6 * n) 1 rfl) ?_
  refine rs_scr ri_307_1180 rfl (by omega) hX ?_
  refine rs_aload_n ri_307_1181 rfl rfl ?_
  refine rs_iload_n ri_307_1182 rfl rfl ?_
  refine rs_iconst (v := (2 : Int32)) ri_307_1183 rfl (by decide) ?_
  refine rs_iadd (r := nI (6 * n + 2)) ri_307_1184 rfl (ro_ni (6 * n) 2 rfl) ?_
  refine rs_scr ri_307_1185 rfl (by omega) hX ?_
  refine rs_aload_n ri_307_1186 rfl rfl ?_
  refine rs_iload_n ri_307_1187 rfl rfl ?_
  refine rs_iconst (v := (3 : Int32)) ri_307_1188 rfl (by decide) ?_
  refine rs_iadd (r := nI (6 * n + 3)) ri_307_1189 rfl (ro_ni (6 * n) 3 rfl) ?_
  refine rs_scr ri_307_1190 rfl (by omega) hX ?_
  refine rs_virt (As := [.int (X.2 (6 * n + 1)), .int (X.2 (6 * n + 2)), .int (X.2 (6 * n + 3))]) (r := [.int r]) ri_307_1191 rfl (by decide) rm_283.2.2.2 rm_283.2.2.1 rfl rfl rfl (by decide) (ro_kf (kd_163 hL1)) (Nat.le_of_ble_eq_true rfl) (by decide) (by decide) hs2 ?_
  rintro _ M2 ⟨e2, hM2⟩
  rw [e2]
  show ro_w X _ 307 _ 1194 [(3, .int (nI (6 * n))), (2, .ref 163), (1, .ref 4), (0, .ref 0)] [.int r, .int r] M2 (190, 79052)
  exact rs_icmp_eq (t := 1524) ri_307_1194 rfl rfl (fun _ => hnext M2 hM2) (fun h => absurd rfl h)
/-- case 32: trace -/
theorem lw_c32 (hL : ∀ M, Inv M → ro_lay M) (hM : Inv M) (hX : X.1 ≤ 3072) (hn : 6 * n + 6 ≤ X.1) (heq : ro_eqI Inv X 173 281 [.int (X.2 (6 * n + 1))]) (hnext : ∀ M2, Inv M2 → ro_w X 2000 307 (fun v _ => v = some (.int 1)) 1524 [(3, .int (nI (6 * n))), (2, .ref 163), (1, .ref 4), (0, .ref 0)] [] M2 (190, 79052)) : ro_w X 2000 307 (fun v _ => v = some (.int 1)) 1199 [(3, .int (nI (6 * n))), (2, .ref 163), (1, .ref 4), (0, .ref 0)] [] M (190, 79052) := by
  refine rs_aload_n ri_307_1199 rfl rfl ?_
  refine rs_aload_n ri_307_1200 rfl rfl ?_
  refine rs_iload_n ri_307_1201 rfl rfl ?_
  refine rs_iconst (v := (1 : Int32)) ri_307_1202 rfl (by decide) ?_
  refine rs_iadd (r := nI (6 * n + 1)) ri_307_1203 rfl (ro_ni (6 * n) 1 rfl) ?_
  refine rs_scr ri_307_1204 rfl (by omega) hX ?_
  refine rs_virt (As := [.int (X.2 (6 * n + 1))]) (r := []) ri_307_1205 rfl (by decide) rm_173.2.2.2 rm_173.2.2.1 rfl rfl rfl (by decide) (ro_kf (kd_4 (hL M hM))) (Nat.le_of_ble_eq_true rfl) (by decide) (by decide) (heq M hM) ?_
  rintro _ M1 ⟨hL1, r, e1, hs2⟩
  rw [e1]
  show ro_w X _ 307 _ 1208 [(3, .int (nI (6 * n))), (2, .ref 163), (1, .ref 4), (0, .ref 0)] [.int r] M1 (190, 79052)
  refine rs_aload_n ri_307_1208 rfl rfl ?_
  refine rs_aload_n ri_307_1209 rfl rfl ?_
  refine rs_iload_n ri_307_1210 rfl rfl ?_
  refine rs_iconst (v := (1 : Int32)) ri_307_1211 rfl (by decide) ?_
  refine rs_iadd (r := nI (6 * n + 1)) ri_307_1212 rfl (ro_ni (6 * n) 1 rfl) ?_
  refine rs_scr ri_307_1213 rfl (by omega) hX ?_
  refine rs_virt (As := [.int (X.2 (6 * n + 1))]) (r := [.int r]) ri_307_1214 rfl (by decide) rm_281.2.2.2 rm_281.2.2.1 rfl rfl rfl (by decide) (ro_kf (kd_163 hL1)) (Nat.le_of_ble_eq_true rfl) (by decide) (by decide) hs2 ?_
  rintro _ M2 ⟨e2, hM2⟩
  rw [e2]
  show ro_w X _ 307 _ 1217 [(3, .int (nI (6 * n))), (2, .ref 163), (1, .ref 4), (0, .ref 0)] [.int r, .int r] M2 (190, 79052)
  exact rs_icmp_eq (t := 1524) ri_307_1217 rfl rfl (fun _ => hnext M2 hM2) (fun h => absurd rfl h)
/-- case 33: keep -/
theorem lw_c33 (hL : ∀ M, Inv M → ro_lay M) (hM : Inv M) (hX : X.1 ≤ 3072) (hn : 6 * n + 6 ≤ X.1) (heq : ro_eqI Inv X 175 300 [.int (X.2 (6 * n + 1)), .int (X.2 (6 * n + 2))]) (hnext : ∀ M2, Inv M2 → ro_w X 2000 307 (fun v _ => v = some (.int 1)) 1524 [(3, .int (nI (6 * n))), (2, .ref 163), (1, .ref 4), (0, .ref 0)] [] M2 (190, 79052)) : ro_w X 2000 307 (fun v _ => v = some (.int 1)) 1222 [(3, .int (nI (6 * n))), (2, .ref 163), (1, .ref 4), (0, .ref 0)] [] M (190, 79052) := by
  refine rs_aload_n ri_307_1222 rfl rfl ?_
  refine rs_aload_n ri_307_1223 rfl rfl ?_
  refine rs_iload_n ri_307_1224 rfl rfl ?_
  refine rs_iconst (v := (1 : Int32)) ri_307_1225 rfl (by decide) ?_
  refine rs_iadd (r := nI (6 * n + 1)) ri_307_1226 rfl (ro_ni (6 * n) 1 rfl) ?_
  refine rs_scr ri_307_1227 rfl (by omega) hX ?_
  refine rs_aload_n ri_307_1228 rfl rfl ?_
  refine rs_iload_n ri_307_1229 rfl rfl ?_
  refine rs_iconst (v := (2 : Int32)) ri_307_1230 rfl (by decide) ?_
  refine rs_iadd (r := nI (6 * n + 2)) ri_307_1231 rfl (ro_ni (6 * n) 2 rfl) ?_
  refine rs_scr ri_307_1232 rfl (by omega) hX ?_
  refine rs_virt (As := [.int (X.2 (6 * n + 1)), .int (X.2 (6 * n + 2))]) (r := []) ri_307_1233 rfl (by decide) rm_175.2.2.2 rm_175.2.2.1 rfl rfl rfl (by decide) (ro_kf (kd_4 (hL M hM))) (Nat.le_of_ble_eq_true rfl) (by decide) (by decide) (heq M hM) ?_
  rintro _ M1 ⟨hL1, r, e1, hs2⟩
  rw [e1]
  show ro_w X _ 307 _ 1236 [(3, .int (nI (6 * n))), (2, .ref 163), (1, .ref 4), (0, .ref 0)] [.int r] M1 (190, 79052)
  refine rs_aload_n ri_307_1236 rfl rfl ?_
  refine rs_aload_n ri_307_1237 rfl rfl ?_
  refine rs_iload_n ri_307_1238 rfl rfl ?_
  refine rs_iconst (v := (1 : Int32)) ri_307_1239 rfl (by decide) ?_
  refine rs_iadd (r := nI (6 * n + 1)) ri_307_1240 rfl (ro_ni (6 * n) 1 rfl) ?_
  refine rs_scr ri_307_1241 rfl (by omega) hX ?_
  refine rs_aload_n ri_307_1242 rfl rfl ?_
  refine rs_iload_n ri_307_1243 rfl rfl ?_
  refine rs_iconst (v := (2 : Int32)) ri_307_1244 rfl (by decide) ?_
  refine rs_iadd (r := nI (6 * n + 2)) ri_307_1245 rfl (ro_ni (6 * n) 2 rfl) ?_
  refine rs_scr ri_307_1246 rfl (by omega) hX ?_
  refine rs_virt (As := [.int (X.2 (6 * n + 1)), .int (X.2 (6 * n + 2))]) (r := [.int r]) ri_307_1247 rfl (by decide) rm_300.2.2.2 rm_300.2.2.1 rfl rfl rfl (by decide) (ro_kf (kd_163 hL1)) (Nat.le_of_ble_eq_true rfl) (by decide) (by decide) hs2 ?_
  rintro _ M2 ⟨e2, hM2⟩
  rw [e2]
  show ro_w X _ 307 _ 1250 [(3, .int (nI (6 * n))), (2, .ref 163), (1, .ref 4), (0, .ref 0)] [.int r, .int r] M2 (190, 79052)
  exact rs_icmp_eq (t := 1524) ri_307_1250 rfl rfl (fun _ => hnext M2 hM2) (fun h => absurd rfl h)
/-- case 34: row -/
theorem lw_c34 (hL : ∀ M, Inv M → ro_lay M) (hM : Inv M) (hX : X.1 ≤ 3072) (hn : 6 * n + 6 ≤ X.1) (heq : ro_eqI Inv X 177 301 [.int (X.2 (6 * n + 1)), .int (X.2 (6 * n + 2)), .int (X.2 (6 * n + 3))]) (hnext : ∀ M2, Inv M2 → ro_w X 2000 307 (fun v _ => v = some (.int 1)) 1524 [(3, .int (nI (6 * n))), (2, .ref 163), (1, .ref 4), (0, .ref 0)] [] M2 (190, 79052)) : ro_w X 2000 307 (fun v _ => v = some (.int 1)) 1255 [(3, .int (nI (6 * n))), (2, .ref 163), (1, .ref 4), (0, .ref 0)] [] M (190, 79052) := by
  refine rs_aload_n ri_307_1255 rfl rfl ?_
  refine rs_aload_n ri_307_1256 rfl rfl ?_
  refine rs_iload_n ri_307_1257 rfl rfl ?_
  refine rs_iconst (v := (1 : Int32)) ri_307_1258 rfl (by decide) ?_
  refine rs_iadd (r := nI (6 * n + 1)) ri_307_1259 rfl (ro_ni (6 * n) 1 rfl) ?_
  refine rs_scr ri_307_1260 rfl (by omega) hX ?_
  refine rs_aload_n ri_307_1261 rfl rfl ?_
  refine rs_iload_n ri_307_1262 rfl rfl ?_
  refine rs_iconst (v := (2 : Int32)) ri_307_1263 rfl (by decide) ?_
  refine rs_iadd (r := nI (6 * n + 2)) ri_307_1264 rfl (ro_ni (6 * n) 2 rfl) ?_
  refine rs_scr ri_307_1265 rfl (by omega) hX ?_
  refine rs_aload_n ri_307_1266 rfl rfl ?_
  refine rs_iload_n ri_307_1267 rfl rfl ?_
  refine rs_iconst (v := (3 : Int32)) ri_307_1268 rfl (by decide) ?_
  refine rs_iadd (r := nI (6 * n + 3)) ri_307_1269 rfl (ro_ni (6 * n) 3 rfl) ?_
  refine rs_scr ri_307_1270 rfl (by omega) hX ?_
  refine rs_virt (As := [.int (X.2 (6 * n + 1)), .int (X.2 (6 * n + 2)), .int (X.2 (6 * n + 3))]) (r := []) ri_307_1271 rfl (by decide) rm_177.2.2.2 rm_177.2.2.1 rfl rfl rfl (by decide) (ro_kf (kd_4 (hL M hM))) (Nat.le_of_ble_eq_true rfl) (by decide) (by decide) (heq M hM) ?_
  rintro _ M1 ⟨hL1, r, e1, hs2⟩
  rw [e1]
  show ro_w X _ 307 _ 1274 [(3, .int (nI (6 * n))), (2, .ref 163), (1, .ref 4), (0, .ref 0)] [.int r] M1 (190, 79052)
  refine rs_aload_n ri_307_1274 rfl rfl ?_
  refine rs_aload_n ri_307_1275 rfl rfl ?_
  refine rs_iload_n ri_307_1276 rfl rfl ?_
  refine rs_iconst (v := (1 : Int32)) ri_307_1277 rfl (by decide) ?_
  refine rs_iadd (r := nI (6 * n + 1)) ri_307_1278 rfl (ro_ni (6 * n) 1 rfl) ?_
  refine rs_scr ri_307_1279 rfl (by omega) hX ?_
  refine rs_aload_n ri_307_1280 rfl rfl ?_
  refine rs_iload_n ri_307_1281 rfl rfl ?_
  refine rs_iconst (v := (2 : Int32)) ri_307_1282 rfl (by decide) ?_
  refine rs_iadd (r := nI (6 * n + 2)) ri_307_1283 rfl (ro_ni (6 * n) 2 rfl) ?_
  refine rs_scr ri_307_1284 rfl (by omega) hX ?_
  refine rs_aload_n ri_307_1285 rfl rfl ?_
  refine rs_iload_n ri_307_1286 rfl rfl ?_
  refine rs_iconst (v := (3 : Int32)) ri_307_1287 rfl (by decide) ?_
  refine rs_iadd (r := nI (6 * n + 3)) ri_307_1288 rfl (ro_ni (6 * n) 3 rfl) ?_
  refine rs_scr ri_307_1289 rfl (by omega) hX ?_
  refine rs_virt (As := [.int (X.2 (6 * n + 1)), .int (X.2 (6 * n + 2)), .int (X.2 (6 * n + 3))]) (r := [.int r]) ri_307_1290 rfl (by decide) rm_301.2.2.2 rm_301.2.2.1 rfl rfl rfl (by decide) (ro_kf (kd_163 hL1)) (Nat.le_of_ble_eq_true rfl) (by decide) (by decide) hs2 ?_
  rintro _ M2 ⟨e2, hM2⟩
  rw [e2]
  show ro_w X _ 307 _ 1293 [(3, .int (nI (6 * n))), (2, .ref 163), (1, .ref 4), (0, .ref 0)] [.int r, .int r] M2 (190, 79052)
  exact rs_icmp_eq (t := 1524) ri_307_1293 rfl rfl (fun _ => hnext M2 hM2) (fun h => absurd rfl h)
/-- case 35: put -/
theorem lw_c35 (hL : ∀ M, Inv M → ro_lay M) (hM : Inv M) (hX : X.1 ≤ 3072) (hn : 6 * n + 6 ≤ X.1) (heq : ro_eqI Inv X 179 302 [.int (X.2 (6 * n + 1)), .int (X.2 (6 * n + 2)), .long (ro_put (X.2 (6 * n + 3)) (X.2 (6 * n + 4)))]) (hnext : ∀ M2, Inv M2 → ro_w X 2000 307 (fun v _ => v = some (.int 1)) 1524 [(3, .int (nI (6 * n))), (2, .ref 163), (1, .ref 4), (0, .ref 0)] [] M2 (190, 79052)) : ro_w X 2000 307 (fun v _ => v = some (.int 1)) 1298 [(3, .int (nI (6 * n))), (2, .ref 163), (1, .ref 4), (0, .ref 0)] [] M (190, 79052) := by
  refine rs_aload_n ri_307_1298 rfl rfl ?_
  refine rs_aload_n ri_307_1299 rfl rfl ?_
  refine rs_iload_n ri_307_1300 rfl rfl ?_
  refine rs_iconst (v := (1 : Int32)) ri_307_1301 rfl (by decide) ?_
  refine rs_iadd (r := nI (6 * n + 1)) ri_307_1302 rfl (ro_ni (6 * n) 1 rfl) ?_
  refine rs_scr ri_307_1303 rfl (by omega) hX ?_
  refine rs_aload_n ri_307_1304 rfl rfl ?_
  refine rs_iload_n ri_307_1305 rfl rfl ?_
  refine rs_iconst (v := (2 : Int32)) ri_307_1306 rfl (by decide) ?_
  refine rs_iadd (r := nI (6 * n + 2)) ri_307_1307 rfl (ro_ni (6 * n) 2 rfl) ?_
  refine rs_scr ri_307_1308 rfl (by omega) hX ?_
  refine rs_aload_n ri_307_1309 rfl rfl ?_
  refine rs_iload_n ri_307_1310 rfl rfl ?_
  refine rs_iconst (v := (3 : Int32)) ri_307_1311 rfl (by decide) ?_
  refine rs_iadd (r := nI (6 * n + 3)) ri_307_1312 rfl (ro_ni (6 * n) 3 rfl) ?_
  refine rs_scr ri_307_1313 rfl (by omega) hX ?_
  refine rs_i2l (r := (X.2 (6 * n + 3)).toInt64) ri_307_1314 rfl rfl ?_
  refine rs_bipush (v := (32 : Int32)) ri_307_1315 rfl (by decide) ?_
  refine rs_lshl (r := ((X.2 (6 * n + 3)).toInt64 <<< ((32 : Int32).toInt64 &&& 63))) ri_307_1317 rfl rfl ?_
  refine rs_aload_n ri_307_1318 rfl rfl ?_
  refine rs_iload_n ri_307_1319 rfl rfl ?_
  refine rs_iconst (v := (4 : Int32)) ri_307_1320 rfl (by decide) ?_
  refine rs_iadd (r := nI (6 * n + 4)) ri_307_1321 rfl (ro_ni (6 * n) 4 rfl) ?_
  refine rs_scr ri_307_1322 rfl (by omega) hX ?_
  refine rs_i2l (r := (X.2 (6 * n + 4)).toInt64) ri_307_1323 rfl rfl ?_
  refine rs_ldc2 (v := (4294967295 : Int64)) ri_307_1324 rfl rfl rfl ?_
  refine rs_land (r := ((X.2 (6 * n + 4)).toInt64 &&& 4294967295)) ri_307_1327 rfl rfl ?_
  refine rs_lor (r := ro_put (X.2 (6 * n + 3)) (X.2 (6 * n + 4))) ri_307_1328 rfl rfl ?_
  refine rs_virt (As := [.int (X.2 (6 * n + 1)), .int (X.2 (6 * n + 2)), .long (ro_put (X.2 (6 * n + 3)) (X.2 (6 * n + 4)))]) (r := []) ri_307_1329 rfl (by decide) rm_179.2.2.2 rm_179.2.2.1 rfl rfl rfl (by decide) (ro_kf (kd_4 (hL M hM))) (Nat.le_of_ble_eq_true rfl) (by decide) (by decide) (heq M hM) ?_
  rintro _ M1 ⟨hL1, r, e1, hs2⟩
  rw [e1]
  show ro_w X _ 307 _ 1332 [(3, .int (nI (6 * n))), (2, .ref 163), (1, .ref 4), (0, .ref 0)] [.int r] M1 (190, 79052)
  refine rs_aload_n ri_307_1332 rfl rfl ?_
  refine rs_aload_n ri_307_1333 rfl rfl ?_
  refine rs_iload_n ri_307_1334 rfl rfl ?_
  refine rs_iconst (v := (1 : Int32)) ri_307_1335 rfl (by decide) ?_
  refine rs_iadd (r := nI (6 * n + 1)) ri_307_1336 rfl (ro_ni (6 * n) 1 rfl) ?_
  refine rs_scr ri_307_1337 rfl (by omega) hX ?_
  refine rs_aload_n ri_307_1338 rfl rfl ?_
  refine rs_iload_n ri_307_1339 rfl rfl ?_
  refine rs_iconst (v := (2 : Int32)) ri_307_1340 rfl (by decide) ?_
  refine rs_iadd (r := nI (6 * n + 2)) ri_307_1341 rfl (ro_ni (6 * n) 2 rfl) ?_
  refine rs_scr ri_307_1342 rfl (by omega) hX ?_
  refine rs_aload_n ri_307_1343 rfl rfl ?_
  refine rs_iload_n ri_307_1344 rfl rfl ?_
  refine rs_iconst (v := (3 : Int32)) ri_307_1345 rfl (by decide) ?_
  refine rs_iadd (r := nI (6 * n + 3)) ri_307_1346 rfl (ro_ni (6 * n) 3 rfl) ?_
  refine rs_scr ri_307_1347 rfl (by omega) hX ?_
  refine rs_i2l (r := (X.2 (6 * n + 3)).toInt64) ri_307_1348 rfl rfl ?_
  refine rs_bipush (v := (32 : Int32)) ri_307_1349 rfl (by decide) ?_
  refine rs_lshl (r := ((X.2 (6 * n + 3)).toInt64 <<< ((32 : Int32).toInt64 &&& 63))) ri_307_1351 rfl rfl ?_
  refine rs_aload_n ri_307_1352 rfl rfl ?_
  refine rs_iload_n ri_307_1353 rfl rfl ?_
  refine rs_iconst (v := (4 : Int32)) ri_307_1354 rfl (by decide) ?_
  refine rs_iadd (r := nI (6 * n + 4)) ri_307_1355 rfl (ro_ni (6 * n) 4 rfl) ?_
  refine rs_scr ri_307_1356 rfl (by omega) hX ?_
  refine rs_i2l (r := (X.2 (6 * n + 4)).toInt64) ri_307_1357 rfl rfl ?_
  refine rs_ldc2 (v := (4294967295 : Int64)) ri_307_1358 rfl rfl rfl ?_
  refine rs_land (r := ((X.2 (6 * n + 4)).toInt64 &&& 4294967295)) ri_307_1361 rfl rfl ?_
  refine rs_lor (r := ro_put (X.2 (6 * n + 3)) (X.2 (6 * n + 4))) ri_307_1362 rfl rfl ?_
  refine rs_virt (As := [.int (X.2 (6 * n + 1)), .int (X.2 (6 * n + 2)), .long (ro_put (X.2 (6 * n + 3)) (X.2 (6 * n + 4)))]) (r := [.int r]) ri_307_1363 rfl (by decide) rm_302.2.2.2 rm_302.2.2.1 rfl rfl rfl (by decide) (ro_kf (kd_163 hL1)) (Nat.le_of_ble_eq_true rfl) (by decide) (by decide) hs2 ?_
  rintro _ M2 ⟨e2, hM2⟩
  rw [e2]
  show ro_w X _ 307 _ 1366 [(3, .int (nI (6 * n))), (2, .ref 163), (1, .ref 4), (0, .ref 0)] [.int r, .int r] M2 (190, 79052)
  exact rs_icmp_eq (t := 1524) ri_307_1366 rfl rfl (fun _ => hnext M2 hM2) (fun h => absurd rfl h)
/-- case 36: element -/
theorem lw_c36 (hL : ∀ M, Inv M → ro_lay M) (hM : Inv M) (hX : X.1 ≤ 3072) (hn : 6 * n + 6 ≤ X.1) (heq : ro_eqJ Inv X 183 304 [.int (X.2 (6 * n + 1)), .int (X.2 (6 * n + 2))]) (hnext : ∀ M2, Inv M2 → ro_w X 2000 307 (fun v _ => v = some (.int 1)) 1524 [(3, .int (nI (6 * n))), (2, .ref 163), (1, .ref 4), (0, .ref 0)] [] M2 (190, 79052)) : ro_w X 2000 307 (fun v _ => v = some (.int 1)) 1371 [(3, .int (nI (6 * n))), (2, .ref 163), (1, .ref 4), (0, .ref 0)] [] M (190, 79052) := by
  refine rs_aload_n ri_307_1371 rfl rfl ?_
  refine rs_aload_n ri_307_1372 rfl rfl ?_
  refine rs_iload_n ri_307_1373 rfl rfl ?_
  refine rs_iconst (v := (1 : Int32)) ri_307_1374 rfl (by decide) ?_
  refine rs_iadd (r := nI (6 * n + 1)) ri_307_1375 rfl (ro_ni (6 * n) 1 rfl) ?_
  refine rs_scr ri_307_1376 rfl (by omega) hX ?_
  refine rs_aload_n ri_307_1377 rfl rfl ?_
  refine rs_iload_n ri_307_1378 rfl rfl ?_
  refine rs_iconst (v := (2 : Int32)) ri_307_1379 rfl (by decide) ?_
  refine rs_iadd (r := nI (6 * n + 2)) ri_307_1380 rfl (ro_ni (6 * n) 2 rfl) ?_
  refine rs_scr ri_307_1381 rfl (by omega) hX ?_
  refine rs_virt (As := [.int (X.2 (6 * n + 1)), .int (X.2 (6 * n + 2))]) (r := []) ri_307_1382 rfl (by decide) rm_183.2.2.2 rm_183.2.2.1 rfl rfl rfl (by decide) (ro_kf (kd_4 (hL M hM))) (Nat.le_of_ble_eq_true rfl) (by decide) (by decide) (heq M hM) ?_
  rintro _ M1 ⟨hL1, r, e1, hs2⟩
  rw [e1]
  show ro_w X _ 307 _ 1385 [(3, .int (nI (6 * n))), (2, .ref 163), (1, .ref 4), (0, .ref 0)] [.long r] M1 (190, 79052)
  refine rs_aload_n ri_307_1385 rfl rfl ?_
  refine rs_aload_n ri_307_1386 rfl rfl ?_
  refine rs_iload_n ri_307_1387 rfl rfl ?_
  refine rs_iconst (v := (1 : Int32)) ri_307_1388 rfl (by decide) ?_
  refine rs_iadd (r := nI (6 * n + 1)) ri_307_1389 rfl (ro_ni (6 * n) 1 rfl) ?_
  refine rs_scr ri_307_1390 rfl (by omega) hX ?_
  refine rs_aload_n ri_307_1391 rfl rfl ?_
  refine rs_iload_n ri_307_1392 rfl rfl ?_
  refine rs_iconst (v := (2 : Int32)) ri_307_1393 rfl (by decide) ?_
  refine rs_iadd (r := nI (6 * n + 2)) ri_307_1394 rfl (ro_ni (6 * n) 2 rfl) ?_
  refine rs_scr ri_307_1395 rfl (by omega) hX ?_
  refine rs_virt (As := [.int (X.2 (6 * n + 1)), .int (X.2 (6 * n + 2))]) (r := [.long r]) ri_307_1396 rfl (by decide) rm_304.2.2.2 rm_304.2.2.1 rfl rfl rfl (by decide) (ro_kf (kd_163 hL1)) (Nat.le_of_ble_eq_true rfl) (by decide) (by decide) hs2 ?_
  rintro _ M2 ⟨e2, hM2⟩
  rw [e2]
  show ro_w X _ 307 _ 1399 [(3, .int (nI (6 * n))), (2, .ref 163), (1, .ref 4), (0, .ref 0)] [.long r, .long r] M2 (190, 79052)
  refine rs_lcmp (r := (0 : Int32)) ri_307_1399 rfl (ro_cmp0 r) ?_
  exact rs_if_eq (t := 1524) ri_307_1400 rfl rfl (fun _ => hnext M2 hM2) (fun h => absurd rfl h)
/-- case 37: shift -/
theorem lw_c37 (hL : ∀ M, Inv M → ro_lay M) (hM : Inv M) (hX : X.1 ≤ 3072) (hn : 6 * n + 6 ≤ X.1) (heq : ro_eqI Inv X 184 305 [.int (X.2 (6 * n + 1)), .int (X.2 (6 * n + 2)), .int (X.2 (6 * n + 3)), .int (X.2 (6 * n + 4)), .int (X.2 (6 * n + 5))]) (hnext : ∀ M2, Inv M2 → ro_w X 2000 307 (fun v _ => v = some (.int 1)) 1524 [(3, .int (nI (6 * n))), (2, .ref 163), (1, .ref 4), (0, .ref 0)] [] M2 (190, 79052)) : ro_w X 2000 307 (fun v _ => v = some (.int 1)) 1405 [(3, .int (nI (6 * n))), (2, .ref 163), (1, .ref 4), (0, .ref 0)] [] M (190, 79052) := by
  refine rs_aload_n ri_307_1405 rfl rfl ?_
  refine rs_aload_n ri_307_1406 rfl rfl ?_
  refine rs_iload_n ri_307_1407 rfl rfl ?_
  refine rs_iconst (v := (1 : Int32)) ri_307_1408 rfl (by decide) ?_
  refine rs_iadd (r := nI (6 * n + 1)) ri_307_1409 rfl (ro_ni (6 * n) 1 rfl) ?_
  refine rs_scr ri_307_1410 rfl (by omega) hX ?_
  refine rs_aload_n ri_307_1411 rfl rfl ?_
  refine rs_iload_n ri_307_1412 rfl rfl ?_
  refine rs_iconst (v := (2 : Int32)) ri_307_1413 rfl (by decide) ?_
  refine rs_iadd (r := nI (6 * n + 2)) ri_307_1414 rfl (ro_ni (6 * n) 2 rfl) ?_
  refine rs_scr ri_307_1415 rfl (by omega) hX ?_
  refine rs_aload_n ri_307_1416 rfl rfl ?_
  refine rs_iload_n ri_307_1417 rfl rfl ?_
  refine rs_iconst (v := (3 : Int32)) ri_307_1418 rfl (by decide) ?_
  refine rs_iadd (r := nI (6 * n + 3)) ri_307_1419 rfl (ro_ni (6 * n) 3 rfl) ?_
  refine rs_scr ri_307_1420 rfl (by omega) hX ?_
  refine rs_aload_n ri_307_1421 rfl rfl ?_
  refine rs_iload_n ri_307_1422 rfl rfl ?_
  refine rs_iconst (v := (4 : Int32)) ri_307_1423 rfl (by decide) ?_
  refine rs_iadd (r := nI (6 * n + 4)) ri_307_1424 rfl (ro_ni (6 * n) 4 rfl) ?_
  refine rs_scr ri_307_1425 rfl (by omega) hX ?_
  refine rs_aload_n ri_307_1426 rfl rfl ?_
  refine rs_iload_n ri_307_1427 rfl rfl ?_
  refine rs_iconst (v := (5 : Int32)) ri_307_1428 rfl (by decide) ?_
  refine rs_iadd (r := nI (6 * n + 5)) ri_307_1429 rfl (ro_ni (6 * n) 5 rfl) ?_
  refine rs_scr ri_307_1430 rfl (by omega) hX ?_
  refine rs_virt (As := [.int (X.2 (6 * n + 1)), .int (X.2 (6 * n + 2)), .int (X.2 (6 * n + 3)), .int (X.2 (6 * n + 4)), .int (X.2 (6 * n + 5))]) (r := []) ri_307_1431 rfl (by decide) rm_184.2.2.2 rm_184.2.2.1 rfl rfl rfl (by decide) (ro_kf (kd_4 (hL M hM))) (Nat.le_of_ble_eq_true rfl) (by decide) (by decide) (heq M hM) ?_
  rintro _ M1 ⟨hL1, r, e1, hs2⟩
  rw [e1]
  show ro_w X _ 307 _ 1434 [(3, .int (nI (6 * n))), (2, .ref 163), (1, .ref 4), (0, .ref 0)] [.int r] M1 (190, 79052)
  refine rs_aload_n ri_307_1434 rfl rfl ?_
  refine rs_aload_n ri_307_1435 rfl rfl ?_
  refine rs_iload_n ri_307_1436 rfl rfl ?_
  refine rs_iconst (v := (1 : Int32)) ri_307_1437 rfl (by decide) ?_
  refine rs_iadd (r := nI (6 * n + 1)) ri_307_1438 rfl (ro_ni (6 * n) 1 rfl) ?_
  refine rs_scr ri_307_1439 rfl (by omega) hX ?_
  refine rs_aload_n ri_307_1440 rfl rfl ?_
  refine rs_iload_n ri_307_1441 rfl rfl ?_
  refine rs_iconst (v := (2 : Int32)) ri_307_1442 rfl (by decide) ?_
  refine rs_iadd (r := nI (6 * n + 2)) ri_307_1443 rfl (ro_ni (6 * n) 2 rfl) ?_
  refine rs_scr ri_307_1444 rfl (by omega) hX ?_
  refine rs_aload_n ri_307_1445 rfl rfl ?_
  refine rs_iload_n ri_307_1446 rfl rfl ?_
  refine rs_iconst (v := (3 : Int32)) ri_307_1447 rfl (by decide) ?_
  refine rs_iadd (r := nI (6 * n + 3)) ri_307_1448 rfl (ro_ni (6 * n) 3 rfl) ?_
  refine rs_scr ri_307_1449 rfl (by omega) hX ?_
  refine rs_aload_n ri_307_1450 rfl rfl ?_
  refine rs_iload_n ri_307_1451 rfl rfl ?_
  refine rs_iconst (v := (4 : Int32)) ri_307_1452 rfl (by decide) ?_
  refine rs_iadd (r := nI (6 * n + 4)) ri_307_1453 rfl (ro_ni (6 * n) 4 rfl) ?_
  refine rs_scr ri_307_1454 rfl (by omega) hX ?_
  refine rs_aload_n ri_307_1455 rfl rfl ?_
  refine rs_iload_n ri_307_1456 rfl rfl ?_
  refine rs_iconst (v := (5 : Int32)) ri_307_1457 rfl (by decide) ?_
  refine rs_iadd (r := nI (6 * n + 5)) ri_307_1458 rfl (ro_ni (6 * n) 5 rfl) ?_
  refine rs_scr ri_307_1459 rfl (by omega) hX ?_
  refine rs_virt (As := [.int (X.2 (6 * n + 1)), .int (X.2 (6 * n + 2)), .int (X.2 (6 * n + 3)), .int (X.2 (6 * n + 4)), .int (X.2 (6 * n + 5))]) (r := [.int r]) ri_307_1460 rfl (by decide) rm_305.2.2.2 rm_305.2.2.1 rfl rfl rfl (by decide) (ro_kf (kd_163 hL1)) (Nat.le_of_ble_eq_true rfl) (by decide) (by decide) hs2 ?_
  rintro _ M2 ⟨e2, hM2⟩
  rw [e2]
  show ro_w X _ 307 _ 1463 [(3, .int (nI (6 * n))), (2, .ref 163), (1, .ref 4), (0, .ref 0)] [.int r, .int r] M2 (190, 79052)
  exact rs_icmp_eq (t := 1524) ri_307_1463 rfl rfl (fun _ => hnext M2 hM2) (fun h => absurd rfl h)
/-- case 38: taken -/
theorem lw_c38 (hL : ∀ M, Inv M → ro_lay M) (hM : Inv M) (hX : X.1 ≤ 3072) (hn : 6 * n + 6 ≤ X.1) (heq : ro_eqI Inv X 187 306 [.int (X.2 (6 * n + 1)), .int (X.2 (6 * n + 2))]) (hnext : ∀ M2, Inv M2 → ro_w X 2000 307 (fun v _ => v = some (.int 1)) 1524 [(3, .int (nI (6 * n))), (2, .ref 163), (1, .ref 4), (0, .ref 0)] [] M2 (190, 79052)) : ro_w X 2000 307 (fun v _ => v = some (.int 1)) 1468 [(3, .int (nI (6 * n))), (2, .ref 163), (1, .ref 4), (0, .ref 0)] [] M (190, 79052) := by
  refine rs_aload_n ri_307_1468 rfl rfl ?_
  refine rs_aload_n ri_307_1469 rfl rfl ?_
  refine rs_iload_n ri_307_1470 rfl rfl ?_
  refine rs_iconst (v := (1 : Int32)) ri_307_1471 rfl (by decide) ?_
  refine rs_iadd (r := nI (6 * n + 1)) ri_307_1472 rfl (ro_ni (6 * n) 1 rfl) ?_
  refine rs_scr ri_307_1473 rfl (by omega) hX ?_
  refine rs_aload_n ri_307_1474 rfl rfl ?_
  refine rs_iload_n ri_307_1475 rfl rfl ?_
  refine rs_iconst (v := (2 : Int32)) ri_307_1476 rfl (by decide) ?_
  refine rs_iadd (r := nI (6 * n + 2)) ri_307_1477 rfl (ro_ni (6 * n) 2 rfl) ?_
  refine rs_scr ri_307_1478 rfl (by omega) hX ?_
  refine rs_virt (As := [.int (X.2 (6 * n + 1)), .int (X.2 (6 * n + 2))]) (r := []) ri_307_1479 rfl (by decide) rm_187.2.2.2 rm_187.2.2.1 rfl rfl rfl (by decide) (ro_kf (kd_4 (hL M hM))) (Nat.le_of_ble_eq_true rfl) (by decide) (by decide) (heq M hM) ?_
  rintro _ M1 ⟨hL1, r, e1, hs2⟩
  rw [e1]
  show ro_w X _ 307 _ 1482 [(3, .int (nI (6 * n))), (2, .ref 163), (1, .ref 4), (0, .ref 0)] [.int r] M1 (190, 79052)
  refine rs_aload_n ri_307_1482 rfl rfl ?_
  refine rs_aload_n ri_307_1483 rfl rfl ?_
  refine rs_iload_n ri_307_1484 rfl rfl ?_
  refine rs_iconst (v := (1 : Int32)) ri_307_1485 rfl (by decide) ?_
  refine rs_iadd (r := nI (6 * n + 1)) ri_307_1486 rfl (ro_ni (6 * n) 1 rfl) ?_
  refine rs_scr ri_307_1487 rfl (by omega) hX ?_
  refine rs_aload_n ri_307_1488 rfl rfl ?_
  refine rs_iload_n ri_307_1489 rfl rfl ?_
  refine rs_iconst (v := (2 : Int32)) ri_307_1490 rfl (by decide) ?_
  refine rs_iadd (r := nI (6 * n + 2)) ri_307_1491 rfl (ro_ni (6 * n) 2 rfl) ?_
  refine rs_scr ri_307_1492 rfl (by omega) hX ?_
  refine rs_virt (As := [.int (X.2 (6 * n + 1)), .int (X.2 (6 * n + 2))]) (r := [.int r]) ri_307_1493 rfl (by decide) rm_306.2.2.2 rm_306.2.2.1 rfl rfl rfl (by decide) (ro_kf (kd_163 hL1)) (Nat.le_of_ble_eq_true rfl) (by decide) (by decide) hs2 ?_
  rintro _ M2 ⟨e2, hM2⟩
  rw [e2]
  show ro_w X _ 307 _ 1496 [(3, .int (nI (6 * n))), (2, .ref 163), (1, .ref 4), (0, .ref 0)] [.int r, .int r] M2 (190, 79052)
  exact rs_icmp_eq (t := 1524) ri_307_1496 rfl rfl (fun _ => hnext M2 hM2) (fun h => absurd rfl h)
/-- case 39: count -/
theorem lw_c39 (hL : ∀ M, Inv M → ro_lay M) (hM : Inv M) (hX : X.1 ≤ 3072) (hn : 6 * n + 6 ≤ X.1) (heq : ro_eqI Inv X 190 298 [.int (X.2 (6 * n + 1))]) (hnext : ∀ M2, Inv M2 → ro_w X 2000 307 (fun v _ => v = some (.int 1)) 1524 [(3, .int (nI (6 * n))), (2, .ref 163), (1, .ref 4), (0, .ref 0)] [] M2 (190, 79052)) : ro_w X 2000 307 (fun v _ => v = some (.int 1)) 1501 [(3, .int (nI (6 * n))), (2, .ref 163), (1, .ref 4), (0, .ref 0)] [] M (190, 79052) := by
  refine rs_aload_n ri_307_1501 rfl rfl ?_
  refine rs_aload_n ri_307_1502 rfl rfl ?_
  refine rs_iload_n ri_307_1503 rfl rfl ?_
  refine rs_iconst (v := (1 : Int32)) ri_307_1504 rfl (by decide) ?_
  refine rs_iadd (r := nI (6 * n + 1)) ri_307_1505 rfl (ro_ni (6 * n) 1 rfl) ?_
  refine rs_scr ri_307_1506 rfl (by omega) hX ?_
  refine rs_virt (As := [.int (X.2 (6 * n + 1))]) (r := []) ri_307_1507 rfl (by decide) rm_190.2.2.2 rm_190.2.2.1 rfl rfl rfl (by decide) (ro_kf (kd_4 (hL M hM))) (Nat.le_of_ble_eq_true rfl) (by decide) (by decide) (heq M hM) ?_
  rintro _ M1 ⟨hL1, r, e1, hs2⟩
  rw [e1]
  show ro_w X _ 307 _ 1510 [(3, .int (nI (6 * n))), (2, .ref 163), (1, .ref 4), (0, .ref 0)] [.int r] M1 (190, 79052)
  refine rs_aload_n ri_307_1510 rfl rfl ?_
  refine rs_aload_n ri_307_1511 rfl rfl ?_
  refine rs_iload_n ri_307_1512 rfl rfl ?_
  refine rs_iconst (v := (1 : Int32)) ri_307_1513 rfl (by decide) ?_
  refine rs_iadd (r := nI (6 * n + 1)) ri_307_1514 rfl (ro_ni (6 * n) 1 rfl) ?_
  refine rs_scr ri_307_1515 rfl (by omega) hX ?_
  refine rs_virt (As := [.int (X.2 (6 * n + 1))]) (r := [.int r]) ri_307_1516 rfl (by decide) rm_298.2.2.2 rm_298.2.2.1 rfl rfl rfl (by decide) (ro_kf (kd_163 hL1)) (Nat.le_of_ble_eq_true rfl) (by decide) (by decide) hs2 ?_
  rintro _ M2 ⟨e2, hM2⟩
  rw [e2]
  show ro_w X _ 307 _ 1519 [(3, .int (nI (6 * n))), (2, .ref 163), (1, .ref 4), (0, .ref 0)] [.int r, .int r] M2 (190, 79052)
  exact rs_icmp_eq (t := 1524) ri_307_1519 rfl rfl (fun _ => hnext M2 hM2) (fun h => absurd rfl h)
end LAW
/-- WHAT IS LEFT: what holds between calls, and the forty pairs -/
def ro_Pairs (Inv : ro_Mm → Prop) : Prop := (∀ (a1 : Int32) (X : ro_Sx), ro_eqI Inv X 12 194 [.int a1]) ∧ (∀ (a1 a2 a3 : Int32) (X : ro_Sx), ro_eqI Inv X 19 197 [.int a1, .int a2, .int a3]) ∧ (∀ (a1 a2 a3 : Int32) (X : ro_Sx), ro_eqI Inv X 27 202 [.int a1, .int a2, .int a3]) ∧ (∀ (a1 a2 : Int32) (X : ro_Sx), ro_eqI Inv X 36 208 [.int a1, .int a2]) ∧ (∀ (a1 : Int32) (X : ro_Sx), ro_eqI Inv X 40 210 [.int a1]) ∧ (∀ (X : ro_Sx), ro_eqI Inv X 43 211 []) ∧ (∀ (a1 : Int32) (X : ro_Sx), ro_eqI Inv X 55 226 [.int a1]) ∧ (∀ (a1 a2 a3 a4 : Int32) (X : ro_Sx), ro_eqI Inv X 64 233 [.int a1, .int a2, .int a3, .int a4]) ∧ (∀ (a1 a2 a3 : Int32) (X : ro_Sx), ro_eqI Inv X 79 246 [.int a1, .int a2, .int a3]) ∧ (∀ (a1 a2 : Int32) (X : ro_Sx), ro_eqI Inv X 83 247 [.int a1, .int a2]) ∧ (∀ (a1 : Int32) (X : ro_Sx), ro_eqI Inv X 93 250 [.int a1]) ∧ (∀ (a1 a2 a3 a4 : Int32) (X : ro_Sx), ro_eqJ Inv X 94 251 [.int a1, .int a2, .int a3, .int a4]) ∧ (∀ (a1 a2 a3 : Int32) (X : ro_Sx), ro_eqJ Inv X 103 255 [.int a1, .int a2, .int a3]) ∧ (∀ (a1 a2 : Int32) (X : ro_Sx), ro_eqJ Inv X 105 256 [.int a1, .int a2]) ∧ (∀ (a1 a2 : Int32) (X : ro_Sx), ro_eqI Inv X 109 259 [.int a1, .int a2]) ∧ (∀ (a1 a2 a3 : Int32) (X : ro_Sx), ro_eqJ Inv X 111 260 [.int a1, .int a2, .int a3]) ∧ (∀ (a1 a2 : Int32) (X : ro_Sx), ro_eqI Inv X 114 264 [.int a1, .int a2]) ∧ (∀ (a1 a2 a3 : Int32) (X : ro_Sx), ro_eqJ Inv X 115 265 [.int a1, .int a2, .int a3]) ∧ (∀ (a1 a2 : Int32) (X : ro_Sx), ro_eqI Inv X 116 266 [.int a1, .int a2]) ∧ (∀ (a1 : Int32) (X : ro_Sx), ro_eqI Inv X 117 267 [.int a1]) ∧ (∀ (a1 a2 a3 : Int32) (X : ro_Sx), ro_eqI Inv X 119 268 [.int a1, .int a2, .int a3]) ∧ (∀ (a1 a2 a3 : Int32) (X : ro_Sx), ro_eqI Inv X 140 273 [.int a1, .int a2, .int a3]) ∧ (∀ (a1 a2 : Int32) (X : ro_Sx), ro_eqI Inv X 144 274 [.int a1, .int a2]) ∧ (∀ (a1 : Int32) (X : ro_Sx), ro_eqI Inv X 146 276 [.int a1]) ∧ (∀ (X : ro_Sx), ro_eqI Inv X 147 277 []) ∧ (∀ (a1 : Int32) (X : ro_Sx), ro_eqI Inv X 148 278 [.int a1]) ∧ (∀ (X : ro_Sx), ro_eqI Inv X 150 279 []) ∧ (∀ (X : ro_Sx), ro_eqI Inv X 152 280 []) ∧ (∀ (X : ro_Sx), ro_eqI Inv X 154 199 []) ∧ (∀ (X : ro_Sx), ro_eqI Inv X 157 201 []) ∧ (∀ (a1 : Int32) (X : ro_Sx), ro_eqI Inv X 160 282 [.int a1]) ∧ (∀ (a1 a2 a3 : Int32) (X : ro_Sx), ro_eqI Inv X 164 283 [.int a1, .int a2, .int a3]) ∧ (∀ (a1 : Int32) (X : ro_Sx), ro_eqI Inv X 173 281 [.int a1]) ∧ (∀ (a1 a2 : Int32) (X : ro_Sx), ro_eqI Inv X 175 300 [.int a1, .int a2]) ∧ (∀ (a1 a2 a3 : Int32) (X : ro_Sx), ro_eqI Inv X 177 301 [.int a1, .int a2, .int a3]) ∧ (∀ (a1 a2 a3 a4 : Int32) (X : ro_Sx), ro_eqI Inv X 179 302 [.int a1, .int a2, .long (ro_put a3 a4)]) ∧ (∀ (a1 a2 : Int32) (X : ro_Sx), ro_eqJ Inv X 183 304 [.int a1, .int a2]) ∧ (∀ (a1 a2 a3 a4 a5 : Int32) (X : ro_Sx), ro_eqI Inv X 184 305 [.int a1, .int a2, .int a3, .int a4, .int a5]) ∧ (∀ (a1 a2 : Int32) (X : ro_Sx), ro_eqI Inv X 187 306 [.int a1, .int a2]) ∧ (∀ (a1 : Int32) (X : ro_Sx), ro_eqI Inv X 190 298 [.int a1])
theorem ro_ends {X : ro_Sx} {M : ro_Mm} {n : Nat} : ro_w X 2000 307 (fun v _ => v = some (.int 1)) 1530 [(3, .int (nI (6 * n))), (2, .ref 163), (1, .ref 4), (0, .ref 0)] [] M (190, 79052) := by
  refine rs_iconst (v := (1 : Int32)) ri_307_1530 rfl (by decide) ?_
  refine rs_end ri_307_1531 rfl ⟨by decide, by decide, ?_⟩
  exact ⟨Or.inr ⟨rfl, Or.inr rfl⟩, rfl⟩
theorem ro_head {X : ro_Sx} {M : ro_Mm} {n : Nat} (hX : X.1 ≤ 3072) (hb : 6 * n ≤ X.1) (h : 6 * n + 6 ≤ X.1 → ro_w X 2000 307 (fun v _ => v = some (.int 1)) 27 [(3, .int (nI (6 * n))), (2, .ref 163), (1, .ref 4), (0, .ref 0)] [] M (190, 79052)) : ro_w X 2000 307 (fun v _ => v = some (.int 1)) 18 [(3, .int (nI (6 * n))), (2, .ref 163), (1, .ref 4), (0, .ref 0)] [] M (190, 79052) := by
  refine rs_iload_n ri_307_18 rfl rfl ?_
  refine rs_aload_n ri_307_19 rfl rfl ?_
  refine rs_len0 (v := Int32.ofNat X.1) ri_307_20 rfl (by decide) rfl ?_
  refine rs_bipush (v := (6 : Int32)) ri_307_21 rfl (by decide) ?_
  refine rs_isub (r := Int32.ofNat X.1 - 6) ri_307_23 rfl rfl ?_
  have e1 : (Int32.ofNat X.1 - 6).toInt = (X.1 : Int) - 6 := pk_sub_toInt (a := X.1) (b := 6) (by omega) (by omega)
  have e2 : (nI (6 * n)).toInt = ((6 * n : Nat) : Int) := nI_toInt (by omega)
  refine rs_icmp_gt (t := 1530) ri_307_24 rfl rfl (fun _ => ro_ends) (fun hz => h ?_)
  have := Int32.le_iff_toInt_le.mp (Int32.not_lt.mp hz)
  rw [e1, e2] at this
  omega
set_option maxRecDepth 20000 in
set_option maxHeartbeats 4000000 in
theorem ro_loop {Inv : ro_Mm → Prop} (hL : ∀ M, Inv M → ro_lay M) (hp : ro_Pairs Inv) {X : ro_Sx} (hX : X.1 ≤ 3072) : ∀ (k n : Nat) (M : ro_Mm), X.1 < 6 * n + k → 6 * n ≤ X.1 → Inv M → ro_w X 2000 307 (fun v _ => v = some (.int 1)) 18 [(3, .int (nI (6 * n))), (2, .ref 163), (1, .ref 4), (0, .ref 0)] [] M (190, 79052) := by
  intro k
  induction k with
  | zero =>
    intro n M hk hb hM
    have hc : ¬ 6 * n + 6 ≤ X.1 := by omega
    exact ro_head hX hb (fun h => absurd h hc) 
  | succ k ih =>
    intro n M hk hb hM
    refine ro_head hX hb (fun hn => ?_)
    have hnext : ∀ M2, Inv M2 → ro_w X 2000 307 (fun v _ => v = some (.int 1)) 1524 [(3, .int (nI (6 * n))), (2, .ref 163), (1, .ref 4), (0, .ref 0)] [] M2 (190, 79052) := by
      intro M2 hM2
      refine rs_iinc (v := nI (6 * (n + 1))) (lv2 := [(3, .int (nI (6 * (n + 1)))), (2, .ref 163), (1, .ref 4), (0, .ref 0)]) ri_307_1524 rfl rfl (show nI (6 * n) + nI 6 = nI (6 * n + 6) from nI_add _ _) rm_307.1 (by decide) rfl ?_
      refine rs_goto (t := 18) ri_307_1527 rfl ?_
      exact ih (n + 1) M2 (by omega) (by omega) hM2
    refine rs_aload_n ri_307_27 rfl rfl ?_
    refine rs_iload_n ri_307_28 rfl rfl ?_
    refine rs_scr (c := 6 * n) ri_307_29 rfl (by omega) hX ?_
    refine rs_bipush (v := (63 : Int32)) ri_307_30 rfl (by decide) ?_
    refine rs_iand (r := X.2 (6 * n) &&& 63) ri_307_32 rfl rfl ?_
    generalize X.2 (6 * n) &&& 63 = u
    by_cases h0 : u = (0 : Int32)
    · exact rs_swIn (o := 175) (t := 208) ri_307_33 (by rw [h0]; decide) (by rw [h0]; decide) (by rw [h0]; rfl) rfl (lw_c0 hL hM hX hn (hp.1 _ X) hnext)
    by_cases h1 : u = (1 : Int32)
    · exact rs_swIn (o := 198) (t := 231) ri_307_33 (by rw [h1]; decide) (by rw [h1]; decide) (by rw [h1]; rfl) rfl (lw_c1 hL hM hX hn (hp.2.1 _ _ _ X) hnext)
    by_cases h2 : u = (2 : Int32)
    · exact rs_swIn (o := 241) (t := 274) ri_307_33 (by rw [h2]; decide) (by rw [h2]; decide) (by rw [h2]; rfl) rfl (lw_c2 hL hM hX hn (hp.2.2.1 _ _ _ X) hnext)
    by_cases h3 : u = (3 : Int32)
    · exact rs_swIn (o := 284) (t := 317) ri_307_33 (by rw [h3]; decide) (by rw [h3]; decide) (by rw [h3]; rfl) rfl (lw_c3 hL hM hX hn (hp.2.2.2.1 _ _ X) hnext)
    by_cases h4 : u = (4 : Int32)
    · exact rs_swIn (o := 317) (t := 350) ri_307_33 (by rw [h4]; decide) (by rw [h4]; decide) (by rw [h4]; rfl) rfl (lw_c4 hL hM hX hn (hp.2.2.2.2.1 _ X) hnext)
    by_cases h5 : u = (5 : Int32)
    · exact rs_swIn (o := 340) (t := 373) ri_307_33 (by rw [h5]; decide) (by rw [h5]; decide) (by rw [h5]; rfl) rfl (lw_c5 hL hM hX hn (hp.2.2.2.2.2.1 X) hnext)
    by_cases h6 : u = (6 : Int32)
    · exact rs_swIn (o := 353) (t := 386) ri_307_33 (by rw [h6]; decide) (by rw [h6]; decide) (by rw [h6]; rfl) rfl (lw_c6 hL hM hX hn (hp.2.2.2.2.2.2.1 _ X) hnext)
    by_cases h7 : u = (7 : Int32)
    · exact rs_swIn (o := 376) (t := 409) ri_307_33 (by rw [h7]; decide) (by rw [h7]; decide) (by rw [h7]; rfl) rfl (lw_c7 hL hM hX hn (hp.2.2.2.2.2.2.2.1 _ _ _ _ X) hnext)
    by_cases h8 : u = (8 : Int32)
    · exact rs_swIn (o := 429) (t := 462) ri_307_33 (by rw [h8]; decide) (by rw [h8]; decide) (by rw [h8]; rfl) rfl (lw_c8 hL hM hX hn (hp.2.2.2.2.2.2.2.2.1 _ _ _ X) hnext)
    by_cases h9 : u = (9 : Int32)
    · exact rs_swIn (o := 472) (t := 505) ri_307_33 (by rw [h9]; decide) (by rw [h9]; decide) (by rw [h9]; rfl) rfl (lw_c9 hL hM hX hn (hp.2.2.2.2.2.2.2.2.2.1 _ _ X) hnext)
    by_cases h10 : u = (10 : Int32)
    · exact rs_swIn (o := 505) (t := 538) ri_307_33 (by rw [h10]; decide) (by rw [h10]; decide) (by rw [h10]; rfl) rfl (lw_c10 hL hM hX hn (hp.2.2.2.2.2.2.2.2.2.2.1 _ X) hnext)
    by_cases h11 : u = (11 : Int32)
    · exact rs_swIn (o := 528) (t := 561) ri_307_33 (by rw [h11]; decide) (by rw [h11]; decide) (by rw [h11]; rfl) rfl (lw_c11 hL hM hX hn (hp.2.2.2.2.2.2.2.2.2.2.2.1 _ _ _ _ X) hnext)
    by_cases h12 : u = (12 : Int32)
    · exact rs_swIn (o := 582) (t := 615) ri_307_33 (by rw [h12]; decide) (by rw [h12]; decide) (by rw [h12]; rfl) rfl (lw_c12 hL hM hX hn (hp.2.2.2.2.2.2.2.2.2.2.2.2.1 _ _ _ X) hnext)
    by_cases h13 : u = (13 : Int32)
    · exact rs_swIn (o := 626) (t := 659) ri_307_33 (by rw [h13]; decide) (by rw [h13]; decide) (by rw [h13]; rfl) rfl (lw_c13 hL hM hX hn (hp.2.2.2.2.2.2.2.2.2.2.2.2.2.1 _ _ X) hnext)
    by_cases h14 : u = (14 : Int32)
    · exact rs_swIn (o := 660) (t := 693) ri_307_33 (by rw [h14]; decide) (by rw [h14]; decide) (by rw [h14]; rfl) rfl (lw_c14 hL hM hX hn (hp.2.2.2.2.2.2.2.2.2.2.2.2.2.2.1 _ _ X) hnext)
    by_cases h15 : u = (15 : Int32)
    · exact rs_swIn (o := 693) (t := 726) ri_307_33 (by rw [h15]; decide) (by rw [h15]; decide) (by rw [h15]; rfl) rfl (lw_c15 hL hM hX hn (hp.2.2.2.2.2.2.2.2.2.2.2.2.2.2.2.1 _ _ _ X) hnext)
    by_cases h16 : u = (16 : Int32)
    · exact rs_swIn (o := 737) (t := 770) ri_307_33 (by rw [h16]; decide) (by rw [h16]; decide) (by rw [h16]; rfl) rfl (lw_c16 hL hM hX hn (hp.2.2.2.2.2.2.2.2.2.2.2.2.2.2.2.2.1 _ _ X) hnext)
    by_cases h17 : u = (17 : Int32)
    · exact rs_swIn (o := 770) (t := 803) ri_307_33 (by rw [h17]; decide) (by rw [h17]; decide) (by rw [h17]; rfl) rfl (lw_c17 hL hM hX hn (hp.2.2.2.2.2.2.2.2.2.2.2.2.2.2.2.2.2.1 _ _ _ X) hnext)
    by_cases h18 : u = (18 : Int32)
    · exact rs_swIn (o := 814) (t := 847) ri_307_33 (by rw [h18]; decide) (by rw [h18]; decide) (by rw [h18]; rfl) rfl (lw_c18 hL hM hX hn (hp.2.2.2.2.2.2.2.2.2.2.2.2.2.2.2.2.2.2.1 _ _ X) hnext)
    by_cases h19 : u = (19 : Int32)
    · exact rs_swIn (o := 847) (t := 880) ri_307_33 (by rw [h19]; decide) (by rw [h19]; decide) (by rw [h19]; rfl) rfl (lw_c19 hL hM hX hn (hp.2.2.2.2.2.2.2.2.2.2.2.2.2.2.2.2.2.2.2.1 _ X) hnext)
    by_cases h20 : u = (20 : Int32)
    · exact rs_swIn (o := 870) (t := 903) ri_307_33 (by rw [h20]; decide) (by rw [h20]; decide) (by rw [h20]; rfl) rfl (lw_c20 hL hM hX hn (hp.2.2.2.2.2.2.2.2.2.2.2.2.2.2.2.2.2.2.2.2.1 _ _ _ X) hnext)
    by_cases h21 : u = (21 : Int32)
    · exact rs_swIn (o := 913) (t := 946) ri_307_33 (by rw [h21]; decide) (by rw [h21]; decide) (by rw [h21]; rfl) rfl (lw_c21 hL hM hX hn (hp.2.2.2.2.2.2.2.2.2.2.2.2.2.2.2.2.2.2.2.2.2.1 _ _ _ X) hnext)
    by_cases h22 : u = (22 : Int32)
    · exact rs_swIn (o := 956) (t := 989) ri_307_33 (by rw [h22]; decide) (by rw [h22]; decide) (by rw [h22]; rfl) rfl (lw_c22 hL hM hX hn (hp.2.2.2.2.2.2.2.2.2.2.2.2.2.2.2.2.2.2.2.2.2.2.1 _ _ X) hnext)
    by_cases h23 : u = (23 : Int32)
    · exact rs_swIn (o := 989) (t := 1022) ri_307_33 (by rw [h23]; decide) (by rw [h23]; decide) (by rw [h23]; rfl) rfl (lw_c23 hL hM hX hn (hp.2.2.2.2.2.2.2.2.2.2.2.2.2.2.2.2.2.2.2.2.2.2.2.1 _ X) hnext)
    by_cases h24 : u = (24 : Int32)
    · exact rs_swIn (o := 1012) (t := 1045) ri_307_33 (by rw [h24]; decide) (by rw [h24]; decide) (by rw [h24]; rfl) rfl (lw_c24 hL hM hX hn (hp.2.2.2.2.2.2.2.2.2.2.2.2.2.2.2.2.2.2.2.2.2.2.2.2.1 X) hnext)
    by_cases h25 : u = (25 : Int32)
    · exact rs_swIn (o := 1025) (t := 1058) ri_307_33 (by rw [h25]; decide) (by rw [h25]; decide) (by rw [h25]; rfl) rfl (lw_c25 hL hM hX hn (hp.2.2.2.2.2.2.2.2.2.2.2.2.2.2.2.2.2.2.2.2.2.2.2.2.2.1 _ X) hnext)
    by_cases h26 : u = (26 : Int32)
    · exact rs_swIn (o := 1048) (t := 1081) ri_307_33 (by rw [h26]; decide) (by rw [h26]; decide) (by rw [h26]; rfl) rfl (lw_c26 hL hM hX hn (hp.2.2.2.2.2.2.2.2.2.2.2.2.2.2.2.2.2.2.2.2.2.2.2.2.2.2.1 X) hnext)
    by_cases h27 : u = (27 : Int32)
    · exact rs_swIn (o := 1061) (t := 1094) ri_307_33 (by rw [h27]; decide) (by rw [h27]; decide) (by rw [h27]; rfl) rfl (lw_c27 hL hM hX hn (hp.2.2.2.2.2.2.2.2.2.2.2.2.2.2.2.2.2.2.2.2.2.2.2.2.2.2.2.1 X) hnext)
    by_cases h28 : u = (28 : Int32)
    · exact rs_swIn (o := 1074) (t := 1107) ri_307_33 (by rw [h28]; decide) (by rw [h28]; decide) (by rw [h28]; rfl) rfl (lw_c28 hL hM hX hn (hp.2.2.2.2.2.2.2.2.2.2.2.2.2.2.2.2.2.2.2.2.2.2.2.2.2.2.2.2.1 X) hnext)
    by_cases h29 : u = (29 : Int32)
    · exact rs_swIn (o := 1087) (t := 1120) ri_307_33 (by rw [h29]; decide) (by rw [h29]; decide) (by rw [h29]; rfl) rfl (lw_c29 hL hM hX hn (hp.2.2.2.2.2.2.2.2.2.2.2.2.2.2.2.2.2.2.2.2.2.2.2.2.2.2.2.2.2.1 X) hnext)
    by_cases h30 : u = (30 : Int32)
    · exact rs_swIn (o := 1100) (t := 1133) ri_307_33 (by rw [h30]; decide) (by rw [h30]; decide) (by rw [h30]; rfl) rfl (lw_c30 hL hM hX hn (hp.2.2.2.2.2.2.2.2.2.2.2.2.2.2.2.2.2.2.2.2.2.2.2.2.2.2.2.2.2.2.1 _ X) hnext)
    by_cases h31 : u = (31 : Int32)
    · exact rs_swIn (o := 1123) (t := 1156) ri_307_33 (by rw [h31]; decide) (by rw [h31]; decide) (by rw [h31]; rfl) rfl (lw_c31 hL hM hX hn (hp.2.2.2.2.2.2.2.2.2.2.2.2.2.2.2.2.2.2.2.2.2.2.2.2.2.2.2.2.2.2.2.1 _ _ _ X) hnext)
    by_cases h32 : u = (32 : Int32)
    · exact rs_swIn (o := 1166) (t := 1199) ri_307_33 (by rw [h32]; decide) (by rw [h32]; decide) (by rw [h32]; rfl) rfl (lw_c32 hL hM hX hn (hp.2.2.2.2.2.2.2.2.2.2.2.2.2.2.2.2.2.2.2.2.2.2.2.2.2.2.2.2.2.2.2.2.1 _ X) hnext)
    by_cases h33 : u = (33 : Int32)
    · exact rs_swIn (o := 1189) (t := 1222) ri_307_33 (by rw [h33]; decide) (by rw [h33]; decide) (by rw [h33]; rfl) rfl (lw_c33 hL hM hX hn (hp.2.2.2.2.2.2.2.2.2.2.2.2.2.2.2.2.2.2.2.2.2.2.2.2.2.2.2.2.2.2.2.2.2.1 _ _ X) hnext)
    by_cases h34 : u = (34 : Int32)
    · exact rs_swIn (o := 1222) (t := 1255) ri_307_33 (by rw [h34]; decide) (by rw [h34]; decide) (by rw [h34]; rfl) rfl (lw_c34 hL hM hX hn (hp.2.2.2.2.2.2.2.2.2.2.2.2.2.2.2.2.2.2.2.2.2.2.2.2.2.2.2.2.2.2.2.2.2.2.1 _ _ _ X) hnext)
    by_cases h35 : u = (35 : Int32)
    · exact rs_swIn (o := 1265) (t := 1298) ri_307_33 (by rw [h35]; decide) (by rw [h35]; decide) (by rw [h35]; rfl) rfl (lw_c35 hL hM hX hn (hp.2.2.2.2.2.2.2.2.2.2.2.2.2.2.2.2.2.2.2.2.2.2.2.2.2.2.2.2.2.2.2.2.2.2.2.1 _ _ _ _ X) hnext)
    by_cases h36 : u = (36 : Int32)
    · exact rs_swIn (o := 1338) (t := 1371) ri_307_33 (by rw [h36]; decide) (by rw [h36]; decide) (by rw [h36]; rfl) rfl (lw_c36 hL hM hX hn (hp.2.2.2.2.2.2.2.2.2.2.2.2.2.2.2.2.2.2.2.2.2.2.2.2.2.2.2.2.2.2.2.2.2.2.2.2.1 _ _ X) hnext)
    by_cases h37 : u = (37 : Int32)
    · exact rs_swIn (o := 1372) (t := 1405) ri_307_33 (by rw [h37]; decide) (by rw [h37]; decide) (by rw [h37]; rfl) rfl (lw_c37 hL hM hX hn (hp.2.2.2.2.2.2.2.2.2.2.2.2.2.2.2.2.2.2.2.2.2.2.2.2.2.2.2.2.2.2.2.2.2.2.2.2.2.1 _ _ _ _ _ X) hnext)
    by_cases h38 : u = (38 : Int32)
    · exact rs_swIn (o := 1435) (t := 1468) ri_307_33 (by rw [h38]; decide) (by rw [h38]; decide) (by rw [h38]; rfl) rfl (lw_c38 hL hM hX hn (hp.2.2.2.2.2.2.2.2.2.2.2.2.2.2.2.2.2.2.2.2.2.2.2.2.2.2.2.2.2.2.2.2.2.2.2.2.2.2.1 _ _ X) hnext)
    by_cases h39 : u = (39 : Int32)
    · exact rs_swIn (o := 1468) (t := 1501) ri_307_33 (by rw [h39]; decide) (by rw [h39]; decide) (by rw [h39]; rfl) rfl (lw_c39 hL hM hX hn (hp.2.2.2.2.2.2.2.2.2.2.2.2.2.2.2.2.2.2.2.2.2.2.2.2.2.2.2.2.2.2.2.2.2.2.2.2.2.2.2 _ X) hnext)
    exact rs_swOut (t := 1524) ri_307_33 (by have g0 := ro_ne_i (z := 0) h0 rfl; have g1 := ro_ne_i (z := 1) h1 rfl; have g2 := ro_ne_i (z := 2) h2 rfl; have g3 := ro_ne_i (z := 3) h3 rfl; have g4 := ro_ne_i (z := 4) h4 rfl; have g5 := ro_ne_i (z := 5) h5 rfl; have g6 := ro_ne_i (z := 6) h6 rfl; have g7 := ro_ne_i (z := 7) h7 rfl; have g8 := ro_ne_i (z := 8) h8 rfl; have g9 := ro_ne_i (z := 9) h9 rfl; have g10 := ro_ne_i (z := 10) h10 rfl; have g11 := ro_ne_i (z := 11) h11 rfl; have g12 := ro_ne_i (z := 12) h12 rfl; have g13 := ro_ne_i (z := 13) h13 rfl; have g14 := ro_ne_i (z := 14) h14 rfl; have g15 := ro_ne_i (z := 15) h15 rfl; have g16 := ro_ne_i (z := 16) h16 rfl; have g17 := ro_ne_i (z := 17) h17 rfl; have g18 := ro_ne_i (z := 18) h18 rfl; have g19 := ro_ne_i (z := 19) h19 rfl; have g20 := ro_ne_i (z := 20) h20 rfl; have g21 := ro_ne_i (z := 21) h21 rfl; have g22 := ro_ne_i (z := 22) h22 rfl; have g23 := ro_ne_i (z := 23) h23 rfl; have g24 := ro_ne_i (z := 24) h24 rfl; have g25 := ro_ne_i (z := 25) h25 rfl; have g26 := ro_ne_i (z := 26) h26 rfl; have g27 := ro_ne_i (z := 27) h27 rfl; have g28 := ro_ne_i (z := 28) h28 rfl; have g29 := ro_ne_i (z := 29) h29 rfl; have g30 := ro_ne_i (z := 30) h30 rfl; have g31 := ro_ne_i (z := 31) h31 rfl; have g32 := ro_ne_i (z := 32) h32 rfl; have g33 := ro_ne_i (z := 33) h33 rfl; have g34 := ro_ne_i (z := 34) h34 rfl; have g35 := ro_ne_i (z := 35) h35 rfl; have g36 := ro_ne_i (z := 36) h36 rfl; have g37 := ro_ne_i (z := 37) h37 rfl; have g38 := ro_ne_i (z := 38) h38 rfl; have g39 := ro_ne_i (z := 39) h39 rfl; omega) rfl (hnext M hM)
set_option maxRecDepth 20000 in
theorem ro_pure_of {Inv : ro_Mm → Prop} (hL : ∀ M, Inv M → ro_lay M) (h1 : Inv ro_M1) (hp : ro_Pairs Inv) : ro_Pure := by
  intro L xs hX
  refine rs_new (c := 4) (n := 9) (c1 := 1) (c2 := 9) ri_307_0 rfl rfl rfl rfl rfl rfl (by decide) (by decide) ?_
  refine rs_dup ri_307_3 rfl rfl ?_
  refine rs_spec (As := []) (r := [.ref 4]) (c1 := 159) (c2 := 77239) ri_307_4 (by decide) rfl rm_0.2.2.2 rfl rfl (Nat.le_of_ble_eq_true rfl) rfl rfl rfl rfl (by decide) (by decide) (by decide) ci_22 ?_
  rintro _ _ ⟨e1, e2⟩
  rw [e1, e2]
  refine rs_astore_n (lv2 := [(1, .ref 4), (0, .ref 0)]) ri_307_7 rfl rm_307.1 (by decide) rfl ?_
  refine rs_new (c := 163) (n := 57) (c1 := 160) (c2 := 77296) ri_307_8 rfl rfl rfl (by decide +kernel) rfl rfl (by decide) (by decide) ?_
  refine rs_dup ri_307_11 rfl rfl ?_
  refine rs_spec (As := []) (r := [.ref 163]) (c1 := 190) (c2 := 79052) ri_307_12 (by decide) rfl rm_193.2.2.2 rfl rfl (Nat.le_of_ble_eq_true rfl) rfl rfl rfl rfl (by decide) (by decide) (by decide) ci_23 ?_
  rintro _ _ ⟨e1, e2⟩
  rw [e1, e2]
  refine rs_astore_n (lv2 := [(2, .ref 163), (1, .ref 4), (0, .ref 0)]) ri_307_15 rfl rm_307.1 (by decide) rfl ?_
  refine rs_iconst (v := (0 : Int32)) ri_307_16 rfl (by decide) ?_
  refine rs_istore_n (lv2 := [(3, .int (0 : Int32)), (2, .ref 163), (1, .ref 4), (0, .ref 0)]) ri_307_17 rfl rm_307.1 (by decide) rfl ?_
  exact ro_loop hL hp (X := (L, xs)) hX (L + 1) 0 ro_M1 (show L < 6 * 0 + (L + 1) by omega) (Nat.zero_le _) h1
