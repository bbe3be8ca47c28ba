/-! the law's body: each person: what is found of forged ones, payings -/
section LAWU
variable {X : ro_Sx} {L : List (List Int32 × List Int32)}
section PEOPLE
variable {cs : Nat × Nat} {od : Nat → Nat → Int32 → Int32 → Int32} {S : pu_T}
/-- the people as they were told, the odds, the purses -/
def zo (X : ro_Sx) (L : List (List Int32 × List Int32)) (od : Nat → Nat → Int32 → Int32 → Int32) (S : pu_T) (M : ro_Mm) : Prop := zt X L M ∧ odv M L = od ∧ pu_now M = S
theorem zo_q {M M2 : ro_Mm} (h : zo X L od S M) (g : kq M M2) : zo X L od S M2 := ⟨zt_q h.1 g, (kq_od g).trans h.2.1, (kq_now g).trans h.2.2⟩
theorem zo_S {M : ro_Mm} (h : zo X L od S M) {i : Nat} (hi : i < np X) : S.1 i = nI (on0 X i) := by
  rw [← h.2.2]; exact (h.1.2.2 i hi).1
theorem zo_od {M : ro_Mm} (h : zo X L od S M) : od_is (kg L M) od := by rw [← h.2.1]; exact kg_od h.1.1
theorem cu_pay {M : ro_Mm} (h : zo X L od S M) {i j N r v : Nat} (hi : i < np X) (hj : j < np X) (hij : i ≠ j) (hN : N ≤ 8) (hr : r ≤ 8) (hv : v ≤ 1) : ro_cwp X 7 94 [.ref 4, .int (nI (10 * i + j)), .int (nI N), .int (nI r), .int (nI v)] M (fun q M2 => q = some (.long (lo_f (pa_P od i j N S 0 r) (12 ^ N) v)) ∧ kq M M2) := by
  have g := ca_pay (X := X) h.1.1 np_b h.1.2.1 hi hj hij hN hr hv
  rw [h.2.1, h.2.2] at g
  exact g
theorem cu_mean {M : ro_Mm} (h : zo X L od S M) {i j N v : Nat} (hi : i < np X) (hj : j < np X) (hij : i ≠ j) (hN : N ≤ 8) (hv : v ≤ 1) : ro_cwp X 7 103 [.ref 4, .int (nI (10 * i + j)), .int (nI N), .int (nI v)] M (fun q M2 => q = some (.long (lo_f (mn_s (fun q => pa_P od i j N S 0 q) 8 1) (12 ^ N) v)) ∧ kq M M2) := by
  have g := ca_mean (X := X) h.1.1 np_b h.1.2.1 hi hj hij hN hv
  rw [h.2.1, h.2.2] at g
  exact g
theorem cu_test {M : ro_Mm} (h : zo X L od S M) {i t v : Nat} (hi : i < np X) (ht : t ≤ 20) (hv : v ≤ 1) : ro_cwp X 5 111 [.ref 4, .int (nI i), .int (nI t), .int (nI v)] M (fun q M2 => q = some (.long (lo_f (te_a (on1 X i) (min (on3 X i) (on1 X i)) t) (te_b (on1 X i) t) v)) ∧ kq M M2) :=
  ca_test h.1.1 np_b h.1.2.1 hi on1_b (Nat.le_trans on3_b (by decide)) (h.1.2.2 i hi).2.1 (h.1.2.2 i hi).2.2 ht hv
theorem cu_honest {M : ro_Mm} (h : zo X L od S M) {i t v : Nat} (hi : i < np X) (ht : t ≤ 20) (hv : v ≤ 1) : ro_cwp X 5 115 [.ref 4, .int (nI i), .int (nI (10 * t + 1)), .int (nI v)] M (fun q M2 => q = some (.long (lo_f (te_a (on1 X i) (min (on3 X i) (on1 X i)) t) (te_b (on1 X i) t) v)) ∧ kq M M2) :=
  ca_honest h.1.1 np_b h.1.2.1 hi on1_b (Nat.le_trans on3_b (by decide)) (h.1.2.2 i hi).2.1 (h.1.2.2 i hi).2.2 ht hv
theorem cu_of8 {M : ro_Mm} (h : zo X L od S M) {i : Nat} (hi : i < np X) : ro_cwp X 4 36 [.ref 4, .int (nI i), .int (nI 8)] M (fun r M2 => r = some (.int (nI (min (on3 X i) (on1 X i)))) ∧ kq M M2) := by
  have g := ca_of8 (X := X) h.1.1 np_b h.1.2.1 hi
  have e : ro_min (M.2.1 10 i) (M.2.1 8 i) = nI (min (on3 X i) (on1 X i)) := by
    rw [(h.1.2.2 i hi).2.1, (h.1.2.2 i hi).2.2]
    have b1 := on1_b (X := X) (p := i)
    have b3 := on3_b (X := X) (p := i)
    unfold ro_min
    by_cases z : on1 X i < on3 X i
    · rw [if_pos (nI_lt z (by omega))]; congr 1; omega
    · rw [if_neg (nI_nlt (by omega) (by omega))]; congr 1; omega
  rw [e] at g
  exact g
theorem cu_enough {M : ro_Mm} (h : zo X L od S M) {i : Nat} (hi : i < np X) : ro_cwp X 5 114 [.ref 4, .int (nI i), .int (nI 12)] M (fun q M2 => (∃ w, q = some (.int w) ∧ (0 ≤ w ↔ 0 < min (on3 X i) (on1 X i))) ∧ kq M M2) :=
  ca_enough h.1.1 np_b h.1.2.1 hi on1_b (Nat.le_trans on3_b (by decide)) (h.1.2.2 i hi).2.1 (h.1.2.2 i hi).2.2
/-- where the tests are: the latest double -/
def te_x (X : ro_Sx) (a t : Nat) (x : UInt64) : Prop := (t = 0 ∧ x = FP.dconst0) ∨ ∃ s, t = s + 1 ∧ x = fq (te_a (on1 X a) (min (on3 X a) (on1 X a)) s) (te_b (on1 X a) s)
theorem ar71 {z y a b c d U W : Nat} (hb : 0 < b) (hd : 0 < d) (h1 : z * b ≤ a * U + W * b) (h2 : c * U ≤ y * d + W * d) (h : a * d ≤ c * b) : z ≤ y + 2 * W := by
  have := ar7 (z := z) (y := y) (a := a) (c := c) (U := U) (K := 1) (W := W) hb hd (by rw [Nat.one_mul]; exact h1) (by rw [Nat.one_mul]; exact h2) h
  rw [Nat.mul_one] at this
  exact this
theorem te_q0 {C F t : Nat} (hC : C ≤ 20) (hF : F ≤ C) : fp_P (fq (te_a C F t) (te_b C t)) ∧ fp_Z (fq (te_a C F t) (te_b C t)) ≤ fp_U ∧ fp_Z (fq (te_a C F t) (te_b C t)) ≤ fp_Z (fq (te_a C F (t + 1)) (te_b C (t + 1))) + 2 * fp_W := by
  have hx : ∀ t, fp_P (fq (te_a C F t) (te_b C t)) ∧ fp_Z (fq (te_a C F t) (te_b C t)) * te_b C t ≤ te_a C F t * fp_U + fp_W * te_b C t ∧ te_a C F t * fp_U ≤ fp_Z (fq (te_a C F t) (te_b C t)) * te_b C t + fp_W * te_b C t := fun t => by
    obtain ⟨n1, n2, n3⟩ := te_n (t := t) hC hF
    have hl := te_le (t := t) hC hF
    exact fq_x n3 (by omega) (by omega)
  obtain ⟨n1, n2, n3⟩ := te_n (t := t) hC hF
  obtain ⟨m1, m2, m3⟩ := te_n (t := t + 1) hC hF
  exact ⟨(hx t).1, fq_1 n3 (by omega) (te_le hC hF), ar71 n3 m3 (hx t).2.1 (hx (t + 1)).2.2 (te_mono hC hF)⟩
theorem te_q {a t : Nat} : fp_P (fq (te_a (on1 X a) (min (on3 X a) (on1 X a)) t) (te_b (on1 X a) t)) ∧ fp_Z (fq (te_a (on1 X a) (min (on3 X a) (on1 X a)) t) (te_b (on1 X a) t)) ≤ fp_U ∧ (∀ x, te_x X a t x → fp_P x ∧ fp_Z x ≤ fp_Z (fq (te_a (on1 X a) (min (on3 X a) (on1 X a)) t) (te_b (on1 X a) t)) + 2 * fp_W) := by
  have hC := on1_b (X := X) (p := a)
  have hF := Nat.min_le_right (on3 X a) (on1 X a)
  obtain ⟨g1, g2, _⟩ := te_q0 (t := t) hC hF
  refine ⟨g1, g2, fun x h => ?_⟩
  rcases h with ⟨_, e⟩ | ⟨s, es, e⟩
  · rw [e, fp_0.2]; exact ⟨fp_0.1, Nat.zero_le _⟩
  · obtain ⟨k1, _, k3⟩ := te_q0 (t := s) hC hF
    rw [e, es]
    exact ⟨k1, k3⟩
theorem lq_test {a : Nat} (hcs : cs.1 ≤ (ro_lim 206).1 ∧ cs.2 ≤ (ro_lim 206).2) (ha : a < np X) (H : ∀ M x, zo X L od S M → te_x X a 21 x → ro_w X 2000 206 lw_PP 1402 [(21, .double x), (20, .int (nI a)), (0, .ref 0), (1, .ref 4), (2, .int (nI (np X)))] [] M cs) : ∀ e t M x, t + e = 21 → zo X L od S M → te_x X a t x → ro_w X 2000 206 lw_PP 1297 [(23, .int (nI t)), (21, .double x), (20, .int (nI a)), (0, .ref 0), (1, .ref 4), (2, .int (nI (np X)))] [] M cs := by
  have hnp := np_b (X := X)
  have W0 := fp_W0
  have UW := fp_W2
  intro e
  induction e with
  | zero =>
    intro t M x hte hz hx
    have et : t = 21 := by omega
    refine rs_iload ri_206_1297 rfl rfl ?_
    refine rs_bipush (v := nI 21) ri_206_1299 rfl (by decide) ?_
    refine rs_icmp_ge (t := 1402) ri_206_1301 rfl rfl (fun _ => ?_) (fun q => absurd (nI_le (a := 21) (b := t) (by omega) (by omega)) q)
    refine ro_w_lv (lv := [(21, .double x), (20, .int (nI a)), (0, .ref 0), (1, .ref 4), (2, .int (nI (np X)))]) (ro_sub_c rfl (ro_sub_c rfl (ro_sub_c rfl (ro_sub_c rfl (ro_sub_c rfl (ro_sub_n rfl)))))) ?_
    rw [et] at hx
    exact H M x hz hx
  | succ e ih =>
    intro t M x hte hz hx
    obtain ⟨is, his⟩ : ∃ is, is = fq (te_a (on1 X a) (min (on3 X a) (on1 X a)) t) (te_b (on1 X a) t) := ⟨_, rfl⟩
    obtain ⟨i1, i2, i3⟩ := te_q (X := X) (a := a) (t := t)
    rw [← his] at i1 i2 i3
    obtain ⟨x1, x2⟩ := i3 x hx
    obtain ⟨e1, e2, e3⟩ := fp_e12_is
    obtain ⟨d1, d2, d3⟩ := fp_add i1 e1 (by omega)
    obtain ⟨r1, hr1, hr1b, hr1c⟩ := fc_ge d1 x1 (by omega) .g
    obtain ⟨r2, hr2, hr2b, hr2c⟩ := fc_le i1 fp_1.1 (by rw [fp_1.2]; exact i2) .l
    obtain ⟨s1, s2, s3⟩ := fp_sub i1 i1 (n := 0) (by omega) (by omega) (by omega)
    obtain ⟨r3, hr3, hr3b, hr3c⟩ := fc_le s2 e1 (by omega) .l
    refine rs_iload ri_206_1297 rfl rfl ?_
    refine rs_bipush (v := nI 21) ri_206_1299 rfl (by decide) ?_
    refine rs_icmp_ge (t := 1402) ri_206_1301 rfl rfl (fun q => absurd q (nI_ge (a := t) (b := 21) (by omega) (by omega))) (fun _ => ?_)
    refine rs_aload_n ri_206_1304 rfl rfl ?_
    refine rs_iload ri_206_1305 rfl rfl ?_
    refine rs_iload ri_206_1307 rfl rfl ?_
    refine rs_iconst (v := nI 0) ri_206_1309 rfl (by decide) ?_
    refine rs_virt (c := 4) (As := [.int (nI a), .int (nI t), .int (nI 0)]) (r := []) ri_206_1310 rfl (by decide) rm_111.2.2.2 rm_111.2.2.1 rfl rfl rfl (by decide) (lr_4 hz.1.1) (Nat.le_of_ble_eq_true rfl) (hcs) (by omega) (cu_test (X := X) hz ha (by omega) (by decide)) ?_
    rintro v M1 ⟨f1, q1⟩
    rw [f1]
    show ro_w X _ 206 _ 1313 [(23, .int (nI t)), (21, .double x), (20, .int (nI a)), (0, .ref 0), (1, .ref 4), (2, .int (nI (np X)))] [.long ((lo_f (te_a (on1 X a) (min (on3 X a) (on1 X a)) t) (te_b (on1 X a) t) 0))] M1 cs
    have hz1 := zo_q hz q1
    refine rs_l2d (r := FP.l2d ((lo_f (te_a (on1 X a) (min (on3 X a) (on1 X a)) t) (te_b (on1 X a) t) 0))) ri_206_1313 rfl rfl ?_
    refine rs_aload_n ri_206_1314 rfl rfl ?_
    refine rs_iload ri_206_1315 rfl rfl ?_
    refine rs_iload ri_206_1317 rfl rfl ?_
    refine rs_iconst (v := nI 1) ri_206_1319 rfl (by decide) ?_
    refine rs_virt (c := 4) (As := [.int (nI a), .int (nI t), .int (nI 1)]) (r := [.double (FP.l2d ((lo_f (te_a (on1 X a) (min (on3 X a) (on1 X a)) t) (te_b (on1 X a) t) 0)))]) ri_206_1320 rfl (by decide) rm_111.2.2.2 rm_111.2.2.1 rfl rfl rfl (by decide) (lr_4 hz1.1.1) (Nat.le_of_ble_eq_true rfl) (hcs) (by omega) (cu_test (X := X) hz1 ha (by omega) (by decide)) ?_
    rintro v M2 ⟨f2, q2⟩
    rw [f2]
    show ro_w X _ 206 _ 1323 [(23, .int (nI t)), (21, .double x), (20, .int (nI a)), (0, .ref 0), (1, .ref 4), (2, .int (nI (np X)))] [.long ((lo_f (te_a (on1 X a) (min (on3 X a) (on1 X a)) t) (te_b (on1 X a) t) 1)), .double (FP.l2d ((lo_f (te_a (on1 X a) (min (on3 X a) (on1 X a)) t) (te_b (on1 X a) t) 0)))] M2 cs
    have hz2 := zo_q hz1 q2
    refine rs_l2d (r := FP.l2d ((lo_f (te_a (on1 X a) (min (on3 X a) (on1 X a)) t) (te_b (on1 X a) t) 1))) ri_206_1323 rfl rfl ?_
    refine rs_ddiv (r := is) ri_206_1324 rfl (show vf_n64 (fq _ _) by rw [← his]; exact fp_P_ok i1) his.symm ?_
    refine rs_dstore (lv2 := [(24, .double is), (23, .int (nI t)), (21, .double x), (20, .int (nI a)), (0, .ref 0), (1, .ref 4), (2, .int (nI (np X)))]) ri_206_1325 rfl rm_206.1 (by decide) rfl ?_
    refine rs_dload ri_206_1327 rfl rfl ?_
    refine rs_ldc2x (v := fp_e12) ri_206_1329 rfl rfl rfl ?_
    refine rs_dadd (r := FP.dadd is fp_e12) ri_206_1332 rfl (fp_P_ok d1) rfl ?_
    refine rs_dload ri_206_1333 rfl rfl ?_
    refine rs_dcmp (r := r1) ri_206_1335 rfl (hr1) ?_
    refine rs_if_lt (t := 1390) ri_206_1336 rfl rfl (fun q => absurd q (hr1b)) (fun _ => ?_)
    refine rs_dload ri_206_1339 rfl rfl ?_
    refine rs_dconst (v := FP.dconst1) ri_206_1341 rfl rfl ?_
    refine rs_dcmp (r := r2) ri_206_1342 rfl (hr2) ?_
    refine rs_if_gt (t := 1390) ri_206_1343 rfl rfl (fun q => absurd q (hr2b)) (fun _ => ?_)
    refine rs_dload ri_206_1346 rfl rfl ?_
    refine rs_aload_n ri_206_1348 rfl rfl ?_
    refine rs_iload ri_206_1349 rfl rfl ?_
    refine rs_bipush (v := nI 10) ri_206_1351 rfl (by decide) ?_
    refine rs_iload ri_206_1353 rfl rfl ?_
    refine rs_imul (r := nI (10 * t)) ri_206_1355 rfl (nI_mul 10 t) ?_
    refine rs_iconst (v := nI 1) ri_206_1356 rfl (by decide) ?_
    refine rs_iadd (r := nI ((10 * t) + 1)) ri_206_1357 rfl (nI_add (10 * t) 1) ?_
    refine rs_iconst (v := nI 0) ri_206_1358 rfl (by decide) ?_
    refine rs_virt (c := 4) (As := [.int (nI a), .int (nI (10 * t + 1)), .int (nI 0)]) (r := [.double is]) ri_206_1359 rfl (by decide) rm_115.2.2.2 rm_115.2.2.1 rfl rfl rfl (by decide) (lr_4 hz2.1.1) (Nat.le_of_ble_eq_true rfl) (hcs) (by omega) (cu_honest (X := X) hz2 ha (by omega) (by decide)) ?_
    rintro v M3 ⟨f3, q3⟩
    rw [f3]
    show ro_w X _ 206 _ 1362 [(24, .double is), (23, .int (nI t)), (21, .double x), (20, .int (nI a)), (0, .ref 0), (1, .ref 4), (2, .int (nI (np X)))] [.long ((lo_f (te_a (on1 X a) (min (on3 X a) (on1 X a)) t) (te_b (on1 X a) t) 0)), .double is] M3 cs
    have hz3 := zo_q hz2 q3
    refine rs_l2d (r := FP.l2d ((lo_f (te_a (on1 X a) (min (on3 X a) (on1 X a)) t) (te_b (on1 X a) t) 0))) ri_206_1362 rfl rfl ?_
    refine rs_aload_n ri_206_1363 rfl rfl ?_
    refine rs_iload ri_206_1364 rfl rfl ?_
    refine rs_bipush (v := nI 10) ri_206_1366 rfl (by decide) ?_
    refine rs_iload ri_206_1368 rfl rfl ?_
    refine rs_imul (r := nI (10 * t)) ri_206_1370 rfl (nI_mul 10 t) ?_
    refine rs_iconst (v := nI 1) ri_206_1371 rfl (by decide) ?_
    refine rs_iadd (r := nI ((10 * t) + 1)) ri_206_1372 rfl (nI_add (10 * t) 1) ?_
    refine rs_iconst (v := nI 1) ri_206_1373 rfl (by decide) ?_
    refine rs_virt (c := 4) (As := [.int (nI a), .int (nI (10 * t + 1)), .int (nI 1)]) (r := [.double (FP.l2d ((lo_f (te_a (on1 X a) (min (on3 X a) (on1 X a)) t) (te_b (on1 X a) t) 0))), .double is]) ri_206_1374 rfl (by decide) rm_115.2.2.2 rm_115.2.2.1 rfl rfl rfl (by decide) (lr_4 hz3.1.1) (Nat.le_of_ble_eq_true rfl) (hcs) (by omega) (cu_honest (X := X) hz3 ha (by omega) (by decide)) ?_
    rintro v M4 ⟨f4, q4⟩
    rw [f4]
    show ro_w X _ 206 _ 1377 [(24, .double is), (23, .int (nI t)), (21, .double x), (20, .int (nI a)), (0, .ref 0), (1, .ref 4), (2, .int (nI (np X)))] [.long ((lo_f (te_a (on1 X a) (min (on3 X a) (on1 X a)) t) (te_b (on1 X a) t) 1)), .double (FP.l2d ((lo_f (te_a (on1 X a) (min (on3 X a) (on1 X a)) t) (te_b (on1 X a) t) 0))), .double is] M4 cs
    have hz4 := zo_q hz3 q4
    refine rs_l2d (r := FP.l2d ((lo_f (te_a (on1 X a) (min (on3 X a) (on1 X a)) t) (te_b (on1 X a) t) 1))) ri_206_1377 rfl rfl ?_
    refine rs_ddiv (r := is) ri_206_1378 rfl (show vf_n64 (fq _ _) by rw [← his]; exact fp_P_ok i1) his.symm ?_
    refine rs_dsub (r := FP.dsub is is) ri_206_1379 rfl (s1) rfl ?_
    refine rs_abs ri_206_1380 rfl (Nat.le_of_ble_eq_true rfl) (s1) rfl ?_
    refine rs_ldc2x (v := fp_e12) ri_206_1383 rfl rfl rfl ?_
    refine rs_dcmp (r := r3) ri_206_1386 rfl (hr3) ?_
    refine rs_if_le (t := 1392) ri_206_1387 rfl rfl (fun _ => ?_) (fun q => absurd (hr3c) q)
    refine rs_dload ri_206_1392 rfl rfl ?_
    refine rs_dstore (lv2 := [(21, .double is), (24, .double is), (23, .int (nI t)), (20, .int (nI a)), (0, .ref 0), (1, .ref 4), (2, .int (nI (np X)))]) ri_206_1394 rfl rm_206.1 (by decide) rfl ?_
    refine rs_iinc (v := nI (t + 1)) (lv2 := [(23, .int (nI (t + 1))), (21, .double is), (24, .double is), (20, .int (nI a)), (0, .ref 0), (1, .ref 4), (2, .int (nI (np X)))]) ri_206_1396 rfl rfl (nI_1 t) rm_206.1 (by decide) rfl ?_
    refine rs_goto (t := 1297) ri_206_1399 rfl ?_
    refine ro_w_lv (lv := [(23, .int (nI (t + 1))), (21, .double is), (20, .int (nI a)), (0, .ref 0), (1, .ref 4), (2, .int (nI (np X)))]) (ro_sub_c rfl (ro_sub_c rfl (ro_sub_c rfl (ro_sub_c rfl (ro_sub_c rfl (ro_sub_c rfl (ro_sub_n rfl))))))) ?_
    exact ih (t + 1) M4 is (by omega) hz4 (Or.inr ⟨t, rfl, his⟩)
theorem lq_1402 {a : Nat} (hcs : cs.1 ≤ (ro_lim 206).1 ∧ cs.2 ≤ (ro_lim 206).2) (ha : a < np X) {M : ro_Mm} {x : UInt64} (hz : zo X L od S M) (hx : te_x X a 21 x) (H : ∀ M, zo X L od S M → ro_w X 2000 206 lw_PP 1070 [(20, .int (nI (a + 1))), (0, .ref 0), (1, .ref 4), (2, .int (nI (np X)))] [] M cs) : ro_w X 2000 206 lw_PP 1402 [(21, .double x), (20, .int (nI a)), (0, .ref 0), (1, .ref 4), (2, .int (nI (np X)))] [] M cs := by
  have hnp := np_b (X := X)
  have hC := on1_b (X := X) (p := a)
  have h3 := on3_b (X := X) (p := a)
  have U0 := fp_U0
  have hx2 : fp_P x ∧ (0 < min (on3 X a) (on1 X a) → fp_Z x = fp_U) ∧ (¬ 0 < min (on3 X a) (on1 X a) → fp_Z x = 0) := by
    rcases hx with ⟨e, _⟩ | ⟨s, es, ex⟩
    · omega
    · have e20 : s = 20 := by omega
      obtain ⟨n1, n2, n3⟩ := te_n (t := 20) hC (Nat.min_le_right (on3 X a) (on1 X a))
      have he := te_end (t := 20) hC (Nat.min_le_right (on3 X a) (on1 X a)) hC
      rw [ex, e20]
      refine ⟨(te_q (X := X) (a := a) (t := 20)).1, fun h => ?_, fun h => ?_⟩
      · rw [if_neg (by omega)] at he
        rw [he]; exact fq_e n3 (by omega)
      · rw [if_pos (by omega)] at he
        rw [he]; exact fq_0 n3 (by omega)
  obtain ⟨p1, p2, p3⟩ := hx2
  by_cases hf : 0 < min (on3 X a) (on1 X a)
  · have c1 := fc_eq p1 fp_1.1 (by rw [fp_1.2]; exact p2 hf) .l
    refine rs_aload_n ri_206_1402 rfl rfl ?_
    refine rs_iload ri_206_1403 rfl rfl ?_
    refine rs_bipush (v := nI 8) ri_206_1405 rfl (by decide) ?_
    refine rs_virt (c := 4) (As := [.int (nI a), .int (nI 8)]) (r := []) ri_206_1407 rfl (by decide) rm_36.2.2.2 rm_36.2.2.1 rfl rfl rfl (by decide) (lr_4 hz.1.1) (Nat.le_of_ble_eq_true rfl) (hcs) (by omega) (cu_of8 (X := X) hz ha) ?_
    rintro v M1 ⟨f1, q1⟩
    rw [f1]
    show ro_w X _ 206 _ 1410 [(21, .double x), (20, .int (nI a)), (0, .ref 0), (1, .ref 4), (2, .int (nI (np X)))] [.int (nI (min (on3 X a) (on1 X a)))] M1 cs
    have hz1 := zo_q hz q1
    refine rs_if_le (t := 1417) ri_206_1410 rfl rfl (fun q => absurd q (nI_nle (by omega) (by omega))) (fun _ => ?_)
    refine rs_iconst (v := nI 1) ri_206_1413 rfl (by decide) ?_
    refine rs_goto (t := 1418) ri_206_1414 rfl ?_
    refine rs_dload ri_206_1418 rfl rfl ?_
    refine rs_dconst (v := FP.dconst1) ri_206_1420 rfl rfl ?_
    refine rs_dcmp (r := nI 0) ri_206_1421 rfl (c1) ?_
    refine rs_if_ne (t := 1429) ri_206_1422 rfl rfl (fun q => absurd (rfl) q) (fun _ => ?_)
    refine rs_iconst (v := nI 1) ri_206_1425 rfl (by decide) ?_
    refine rs_goto (t := 1430) ri_206_1426 rfl ?_
    refine rs_icmp_ne (t := 1468) ri_206_1430 rfl rfl (fun q => absurd (by decide) q) (fun _ => ?_)
    refine rs_aload_n ri_206_1433 rfl rfl ?_
    refine rs_iload ri_206_1434 rfl rfl ?_
    refine rs_bipush (v := nI 12) ri_206_1436 rfl (by decide) ?_
    refine rs_virt (c := 4) (As := [.int (nI a), .int (nI 12)]) (r := []) ri_206_1438 rfl (by decide) rm_114.2.2.2 rm_114.2.2.1 rfl rfl rfl (by decide) (lr_4 hz1.1.1) (Nat.le_of_ble_eq_true rfl) (hcs) (by omega) (cu_enough (X := X) hz1 ha) ?_
    rintro v M2 ⟨⟨ew, f2, hew⟩, q2⟩
    rw [f2]
    show ro_w X _ 206 _ 1441 [(21, .double x), (20, .int (nI a)), (0, .ref 0), (1, .ref 4), (2, .int (nI (np X)))] [.int ew] M2 cs
    have hz2 := zo_q hz1 q2
    refine rs_if_lt (t := 1448) ri_206_1441 rfl rfl (fun q => absurd q (Int32.not_lt.mpr (hew.mpr hf))) (fun _ => ?_)
    refine rs_iconst (v := nI 1) ri_206_1444 rfl (by decide) ?_
    refine rs_goto (t := 1449) ri_206_1445 rfl ?_
    refine rs_aload_n ri_206_1449 rfl rfl ?_
    refine rs_iload ri_206_1450 rfl rfl ?_
    refine rs_bipush (v := nI 8) ri_206_1452 rfl (by decide) ?_
    refine rs_virt (c := 4) (As := [.int (nI a), .int (nI 8)]) (r := [.int (nI 1)]) ri_206_1454 rfl (by decide) rm_36.2.2.2 rm_36.2.2.1 rfl rfl rfl (by decide) (lr_4 hz2.1.1) (Nat.le_of_ble_eq_true rfl) (hcs) (by omega) (cu_of8 (X := X) hz2 ha) ?_
    rintro v M3 ⟨f3, q3⟩
    rw [f3]
    show ro_w X _ 206 _ 1457 [(21, .double x), (20, .int (nI a)), (0, .ref 0), (1, .ref 4), (2, .int (nI (np X)))] [.int (nI (min (on3 X a) (on1 X a))), .int (nI 1)] M3 cs
    have hz3 := zo_q hz2 q3
    refine rs_if_le (t := 1464) ri_206_1457 rfl rfl (fun q => absurd q (nI_nle (by omega) (by omega))) (fun _ => ?_)
    refine rs_iconst (v := nI 1) ri_206_1460 rfl (by decide) ?_
    refine rs_goto (t := 1465) ri_206_1461 rfl ?_
    refine rs_icmp_eq (t := 1470) ri_206_1465 rfl rfl (fun _ => ?_) (fun q => absurd (by decide) q)
    refine rs_iinc (v := nI (a + 1)) (lv2 := [(20, .int (nI (a + 1))), (21, .double x), (0, .ref 0), (1, .ref 4), (2, .int (nI (np X)))]) ri_206_1470 rfl rfl (nI_1 a) rm_206.1 (by decide) rfl ?_
    refine rs_goto (t := 1070) ri_206_1473 rfl ?_
    refine ro_w_lv (lv := [(20, .int (nI (a + 1))), (0, .ref 0), (1, .ref 4), (2, .int (nI (np X)))]) (ro_sub_c rfl (ro_sub_c rfl (ro_sub_c rfl (ro_sub_c rfl (ro_sub_n rfl))))) ?_
    exact H M3 hz3
  · obtain ⟨r1, c1, c1b⟩ := fc_ne p1 fp_1.1 (by rw [fp_1.2, p3 hf]; omega) .l
    refine rs_aload_n ri_206_1402 rfl rfl ?_
    refine rs_iload ri_206_1403 rfl rfl ?_
    refine rs_bipush (v := nI 8) ri_206_1405 rfl (by decide) ?_
    refine rs_virt (c := 4) (As := [.int (nI a), .int (nI 8)]) (r := []) ri_206_1407 rfl (by decide) rm_36.2.2.2 rm_36.2.2.1 rfl rfl rfl (by decide) (lr_4 hz.1.1) (Nat.le_of_ble_eq_true rfl) (hcs) (by omega) (cu_of8 (X := X) hz ha) ?_
    rintro v M1 ⟨f1, q1⟩
    rw [f1]
    show ro_w X _ 206 _ 1410 [(21, .double x), (20, .int (nI a)), (0, .ref 0), (1, .ref 4), (2, .int (nI (np X)))] [.int (nI (min (on3 X a) (on1 X a)))] M1 cs
    have hz1 := zo_q hz q1
    refine rs_if_le (t := 1417) ri_206_1410 rfl rfl (fun _ => ?_) (fun q => absurd (nI_le (b := 0) (by omega) (by omega)) q)
    refine rs_iconst (v := nI 0) ri_206_1417 rfl (by decide) ?_
    refine rs_dload ri_206_1418 rfl rfl ?_
    refine rs_dconst (v := FP.dconst1) ri_206_1420 rfl rfl ?_
    refine rs_dcmp (r := r1) ri_206_1421 rfl (c1) ?_
    refine rs_if_ne (t := 1429) ri_206_1422 rfl rfl (fun _ => ?_) (fun q => absurd q (c1b))
    refine rs_iconst (v := nI 0) ri_206_1429 rfl (by decide) ?_
    refine rs_icmp_ne (t := 1468) ri_206_1430 rfl rfl (fun q => absurd (by decide) q) (fun _ => ?_)
    refine rs_aload_n ri_206_1433 rfl rfl ?_
    refine rs_iload ri_206_1434 rfl rfl ?_
    refine rs_bipush (v := nI 12) ri_206_1436 rfl (by decide) ?_
    refine rs_virt (c := 4) (As := [.int (nI a), .int (nI 12)]) (r := []) ri_206_1438 rfl (by decide) rm_114.2.2.2 rm_114.2.2.1 rfl rfl rfl (by decide) (lr_4 hz1.1.1) (Nat.le_of_ble_eq_true rfl) (hcs) (by omega) (cu_enough (X := X) hz1 ha) ?_
    rintro v M2 ⟨⟨ew, f2, hew⟩, q2⟩
    rw [f2]
    show ro_w X _ 206 _ 1441 [(21, .double x), (20, .int (nI a)), (0, .ref 0), (1, .ref 4), (2, .int (nI (np X)))] [.int ew] M2 cs
    have hz2 := zo_q hz1 q2
    refine rs_if_lt (t := 1448) ri_206_1441 rfl rfl (fun _ => ?_) (fun q => absurd (Int32.not_le.mp (fun q => hf (hew.mp q))) q)
    refine rs_iconst (v := nI 0) ri_206_1448 rfl (by decide) ?_
    refine rs_aload_n ri_206_1449 rfl rfl ?_
    refine rs_iload ri_206_1450 rfl rfl ?_
    refine rs_bipush (v := nI 8) ri_206_1452 rfl (by decide) ?_
    refine rs_virt (c := 4) (As := [.int (nI a), .int (nI 8)]) (r := [.int (nI 0)]) ri_206_1454 rfl (by decide) rm_36.2.2.2 rm_36.2.2.1 rfl rfl rfl (by decide) (lr_4 hz2.1.1) (Nat.le_of_ble_eq_true rfl) (hcs) (by omega) (cu_of8 (X := X) hz2 ha) ?_
    rintro v M3 ⟨f3, q3⟩
    rw [f3]
    show ro_w X _ 206 _ 1457 [(21, .double x), (20, .int (nI a)), (0, .ref 0), (1, .ref 4), (2, .int (nI (np X)))] [.int (nI (min (on3 X a) (on1 X a))), .int (nI 0)] M3 cs
    have hz3 := zo_q hz2 q3
    refine rs_if_le (t := 1464) ri_206_1457 rfl rfl (fun _ => ?_) (fun q => absurd (nI_le (b := 0) (by omega) (by omega)) q)
    refine rs_iconst (v := nI 0) ri_206_1464 rfl (by decide) ?_
    refine rs_icmp_eq (t := 1470) ri_206_1465 rfl rfl (fun _ => ?_) (fun q => absurd (by decide) q)
    refine rs_iinc (v := nI (a + 1)) (lv2 := [(20, .int (nI (a + 1))), (21, .double x), (0, .ref 0), (1, .ref 4), (2, .int (nI (np X)))]) ri_206_1470 rfl rfl (nI_1 a) rm_206.1 (by decide) rfl ?_
    refine rs_goto (t := 1070) ri_206_1473 rfl ?_
    refine ro_w_lv (lv := [(20, .int (nI (a + 1))), (0, .ref 0), (1, .ref 4), (2, .int (nI (np X)))]) (ro_sub_c rfl (ro_sub_c rfl (ro_sub_c rfl (ro_sub_c rfl (ro_sub_n rfl))))) ?_
    exact H M3 hz3
/-- so far: all together, and how many on the whole -/
def pay_x (w : Nat → Nat) (T r : Nat) (x y : UInt64) : Prop := fp_P x ∧ fp_P y ∧ fp_Z x * T ≤ sm_n w r * fp_U + 2 * r * (fp_W * T) ∧ sm_n w r * fp_U ≤ fp_Z x * T + 2 * r * (fp_W * T) ∧
  fp_Z y * T ≤ sm_n (fun q => q * w q) r * fp_U + 10 * r * (fp_W * T) ∧ sm_n (fun q => q * w q) r * fp_U ≤ fp_Z y * T + 10 * r * (fp_W * T)
theorem sm_le {w : Nat → Nat} : ∀ {m n : Nat}, m ≤ n → sm_n w m ≤ sm_n w n
  | m, 0, h => by rw [show m = 0 by omega]; exact Nat.le_refl _
  | m, n + 1, h => by
    by_cases e : m = n + 1
    · rw [e]; exact Nat.le_refl _
    · have := sm_le (w := w) (m := m) (n := n) (by omega)
      rw [sm_n]; omega
theorem sm_8 {w : Nat → Nat} : ∀ {n : Nat}, n ≤ 9 → sm_n (fun q => q * w q) n ≤ 8 * sm_n w n
  | 0, _ => Nat.le_refl _
  | n + 1, h => by
    have h1 := sm_8 (w := w) (n := n) (by omega)
    have h2 : n * w n ≤ 8 * w n := Nat.mul_le_mul_right _ (by omega)
    rw [sm_n, sm_n]; omega
theorem sm_mn {w : Nat → Nat} : ∀ (d k : Nat), sm_n (fun q => q * w q) (k + d) = sm_n (fun q => q * w q) k + mn_s w d k
  | 0, k => rfl
  | d + 1, k => by
    rw [show k + (d + 1) = k + 1 + d by omega, sm_mn d (k + 1), sm_n, mn_s]
    omega
/-- one more -/
theorem pay_s {w : Nat → Nat} {T r : Nat} {x y is : UInt64} (hT : 0 < T) (hr : r < 9) (hs : sm_n w (r + 1) ≤ T) (h : pay_x w T r x y) (h1 : fp_P is) (h2 : fp_Z is * T ≤ w r * fp_U + fp_W * T) (h3 : w r * fp_U ≤ fp_Z is * T + fp_W * T) (h4 : fp_Z is ≤ fp_U) :
    vf_n64 (FP.dadd x is) ∧ vf_n64 (FP.dmul (FP.i2d (nI r)) is) ∧ vf_n64 (FP.dadd y (FP.dmul (FP.i2d (nI r)) is)) ∧ pay_x w T (r + 1) (FP.dadd x is) (FP.dadd y (FP.dmul (FP.i2d (nI r)) is)) := by
  unfold pay_x at h ⊢
  obtain ⟨p1, p2, a1, a2, b1, b2⟩ := h
  have W0 := fp_W0
  have UW := fp_W2
  have U0 := fp_U0
  obtain ⟨i1, i2⟩ := fp_i2d (x := nI r) (by rw [nI_toInt (by omega)]; omega)
  rw [nI_toInt (by omega)] at i2
  have i2 : fp_Z (FP.i2d (nI r)) = r * fp_U := i2
  have h8 : sm_n (fun q => q * w q) (r + 1) ≤ 8 * T := by
    have := sm_8 (w := w) (n := r + 1) (by omega)
    omega
  have s1 : sm_n w (r + 1) = sm_n w r + w r := rfl
  have s2 : sm_n (fun q => q * w q) (r + 1) = sm_n (fun q => q * w q) r + r * w r := rfl
  generalize sm_n w (r + 1) = A1 at *
  generalize sm_n (fun q => q * w q) (r + 1) = B1 at *
  generalize sm_n w r = A0 at *
  generalize sm_n (fun q => q * w q) r = B0 at *
  generalize w r = v at *
  have K : 2 * r * (fp_W * T) = r * (2 * (fp_W * T)) := by rw [Nat.mul_comm 2 r, Nat.mul_assoc]
  have K2 : 10 * r * (fp_W * T) = r * (10 * (fp_W * T)) := by rw [Nat.mul_comm 10 r, Nat.mul_assoc]
  have K3 : 2 * (r + 1) * (fp_W * T) = r * (2 * (fp_W * T)) + 2 * (fp_W * T) := by rw [Nat.mul_add, Nat.add_mul, Nat.mul_one, ← K]
  have K4 : 10 * (r + 1) * (fp_W * T) = r * (10 * (fp_W * T)) + 10 * (fp_W * T) := by rw [Nat.mul_add, Nat.add_mul, Nat.mul_one, ← K2]
  -- how large they are
  have wt : r * (2 * (fp_W * T)) ≤ 16 * (fp_W * T) := by
    have := Nat.mul_le_mul_right (2 * (fp_W * T)) (show r ≤ 8 by omega)
    omega
  have wt2 : r * (10 * (fp_W * T)) ≤ 80 * (fp_W * T) := by
    have := Nat.mul_le_mul_right (10 * (fp_W * T)) (show r ≤ 8 by omega)
    omega
  have cx : fp_Z x ≤ fp_U + 16 * fp_W := by
    have k1 : A0 * fp_U ≤ T * fp_U := Nat.mul_le_mul_right _ (by omega)
    have k2 : fp_Z x * T ≤ (fp_U + 16 * fp_W) * T := by
      rw [Nat.add_mul, Nat.mul_comm fp_U, Nat.mul_assoc 16]; omega
    exact Nat.le_of_mul_le_mul_right k2 hT
  obtain ⟨d1, d2, d3⟩ := fp_add p1 h1 (by omega)
  -- r times it
  have rz : r * fp_Z is ≤ 8 * fp_U := Nat.mul_le_mul (by omega) h4
  obtain ⟨m1, m2, m3⟩ := fp_mul i1 h1 (by
    rw [i2]
    have k1 : r * fp_U * fp_Z is = r * fp_Z is * fp_U := Nat.mul_right_comm _ _ _
    have k2 : r * fp_Z is * fp_U ≤ 8 * fp_U * fp_U := Nat.mul_le_mul_right _ rz
    have k3 : 8 * fp_U * fp_U < 2 ^ 53 * fp_W * fp_U := Nat.mul_lt_mul_of_pos_right (by omega) U0
    omega)
  rw [i2] at m2 m3
  have e1 : r * fp_U * fp_Z is = r * fp_Z is * fp_U := Nat.mul_right_comm _ _ _
  rw [e1, ← Nat.add_mul] at m2
  rw [e1, ← Nat.add_mul] at m3
  have m2 := Nat.le_of_mul_le_mul_right m2 U0
  have m3 := Nat.le_of_mul_le_mul_right m3 U0
  generalize FP.dmul (FP.i2d (nI r)) is = pp at *
  -- times T
  have t1 : r * (fp_Z is * T) ≤ r * v * fp_U + r * (fp_W * T) := by
    have := Nat.mul_le_mul_left r h2
    rw [Nat.mul_add, ← Nat.mul_assoc r v] at this
    exact this
  have t2 : r * v * fp_U ≤ r * (fp_Z is * T) + r * (fp_W * T) := by
    have := Nat.mul_le_mul_left r h3
    rw [Nat.mul_add, ← Nat.mul_assoc r v] at this
    exact this
  have rw8 : r * (fp_W * T) ≤ 8 * (fp_W * T) := Nat.mul_le_mul_right _ (by omega)
  have q1 : fp_Z pp * T ≤ r * (fp_Z is * T) + fp_W * T := by
    have := Nat.mul_le_mul_right T m2
    rw [Nat.add_mul, Nat.mul_assoc r] at this
    exact this
  have q2 : r * (fp_Z is * T) ≤ fp_Z pp * T + fp_W * T := by
    have := Nat.mul_le_mul_right T m3
    rw [Nat.add_mul, Nat.mul_assoc r] at this
    exact this
  have eB : B1 * fp_U = B0 * fp_U + r * v * fp_U := by rw [s2, Nat.add_mul]
  have eA : A1 * fp_U = A0 * fp_U + v * fp_U := by rw [s1, Nat.add_mul]
  have cy : fp_Z y + fp_Z pp ≤ 8 * fp_U + 97 * fp_W := by
    have k1 : B1 * fp_U ≤ 8 * T * fp_U := Nat.mul_le_mul_right _ h8
    have k2 : (fp_Z y + fp_Z pp) * T ≤ (8 * fp_U + 97 * fp_W) * T := by
      have e : (8 * fp_U + 97 * fp_W) * T = 8 * T * fp_U + 97 * (fp_W * T) := by rw [Nat.add_mul, Nat.mul_assoc 97, Nat.mul_right_comm]
      rw [e, Nat.add_mul]; omega
    exact Nat.le_of_mul_le_mul_right k2 hT
  obtain ⟨g1, g2, g3⟩ := fp_add p2 m1 (by omega)
  have D2 := Nat.mul_le_mul_right T d2
  have D3 := Nat.mul_le_mul_right T d3
  have G2 := Nat.mul_le_mul_right T g2
  have G3 := Nat.mul_le_mul_right T g3
  rw [Nat.add_mul, Nat.add_mul] at D2 D3 G2 G3
  refine ⟨fp_P_ok d1, fp_P_ok m1, fp_P_ok g1, d1, g1, ?_, ?_, ?_, ?_⟩
  · rw [K3]; omega
  · rw [K3]; omega
  · rw [K4]; omega
  · rw [K4]; omega
theorem lq_pay {a b N : Nat} (hcs : cs.1 ≤ (ro_lim 206).1 ∧ cs.2 ≤ (ro_lim 206).2) (hX : X.1 ≤ 260) (ha : a < np X) (hb : b < np X) (hab : a ≠ b) (hN : N ≤ 8) (H : ∀ M x y, zo X L od S M → pay_x (fun q => pa_P od a b N S 0 q) (12 ^ N) 9 x y → ro_w X 2000 206 lw_PP 1235 [(26, .double y), (24, .double x), (23, .int (nI N)), (22, .int (nI (10 * a + b))), (21, .int (nI b)), (20, .int (nI a)), (0, .ref 0), (1, .ref 4), (2, .int (nI (np X)))] [] M cs) : ∀ e r M x y, r + e = 9 → zo X L od S M → pay_x (fun q => pa_P od a b N S 0 q) (12 ^ N) r x y → ro_w X 2000 206 lw_PP 1128 [(28, .int (nI r)), (26, .double y), (24, .double x), (23, .int (nI N)), (22, .int (nI (10 * a + b))), (21, .int (nI b)), (20, .int (nI a)), (0, .ref 0), (1, .ref 4), (2, .int (nI (np X)))] [] M cs := by
  have hnp := np_b (X := X)
  intro e
  induction e with
  | zero =>
    intro r M x y hre hz hx
    have er : r = 9 := by omega
    refine rs_iload ri_206_1128 rfl rfl ?_
    refine rs_bipush (v := nI 9) ri_206_1130 rfl (by decide) ?_
    refine rs_icmp_ge (t := 1235) ri_206_1132 rfl rfl (fun _ => ?_) (fun q => absurd (nI_le (a := 9) (b := r) (by omega) (by omega)) q)
    refine ro_w_lv (lv := [(26, .double y), (24, .double x), (23, .int (nI N)), (22, .int (nI (10 * a + b))), (21, .int (nI b)), (20, .int (nI a)), (0, .ref 0), (1, .ref 4), (2, .int (nI (np X)))]) (ro_sub_c rfl (ro_sub_c rfl (ro_sub_c rfl (ro_sub_c rfl (ro_sub_c rfl (ro_sub_c rfl (ro_sub_c rfl (ro_sub_c rfl (ro_sub_c rfl (ro_sub_n rfl)))))))))) ?_
    rw [er] at hx
    exact H M x y hz hx
  | succ e ih =>
    intro r M x y hre hz hx
    have hod := zo_od hz
    have hT := pw_pos N
    have h12 := pw_8 hN
    have hwb := pa_b (i := a) (j := b) hod N S 0 r
    have hsum := pa_sum (i := a) (j := b) hod N S 0 (by omega)
    have hsm : sm_n (fun q => pa_P od a b N S 0 q) (r + 1) ≤ 12 ^ N := by rw [← hsum]; exact sm_le (by omega)
    obtain ⟨is, his⟩ : ∃ is, is = fq (pa_P od a b N S 0 r) (12 ^ N) := ⟨_, rfl⟩
    obtain ⟨i1, i2, i3⟩ := fq_x (a := pa_P od a b N S 0 r) (b := 12 ^ N) hT (by omega) (by omega)
    have i4 := fq_1 (a := pa_P od a b N S 0 r) (b := 12 ^ N) hT (by omega) hwb
    have i5 : pa_P od a b N S 0 r = 0 → fp_Z is = 0 := fun q => by rw [his, q]; exact fq_0 hT (by omega)
    rw [← his] at i1 i2 i3 i4
    obtain ⟨o1, o2, o3, o4⟩ := pay_s hT (by omega) hsm hx i1 i2 i3 i4
    obtain ⟨r1, hr1, hr1b, hr1c⟩ := fc_ge i1 fp_0.1 (by rw [fp_0.2]; exact Nat.zero_le _) .g
    obtain ⟨r2, hr2, hr2b, hr2c⟩ := fc_le i1 fp_1.1 (by rw [fp_1.2]; exact i4) .l
    have z1 : N < r → Op.cmpValue (FP.dcmp is FP.dconst0) .l = nI 0 := fun q => fc_eq i1 fp_0.1 (by rw [fp_0.2]; exact i5 (pa_z1 N S 0 r (by omega))) .l
    have z2 : on0 X a < r → Op.cmpValue (FP.dcmp is FP.dconst0) .l = nI 0 := fun q => fc_eq i1 fp_0.1 (by rw [fp_0.2]; exact i5 (pa_z2 hab N S 0 r (on0 X a) on0_b (zo_S hz ha) (by omega))) .l
    have hon := on0_b (X := X) (p := a)
    by_cases c1 : r ≤ N
    · by_cases c2 : r ≤ on0 X a
      · refine rs_iload ri_206_1128 rfl rfl ?_
        refine rs_bipush (v := nI 9) ri_206_1130 rfl (by decide) ?_
        refine rs_icmp_ge (t := 1235) ri_206_1132 rfl rfl (fun q => absurd q (nI_ge (a := r) (b := 9) (by omega) (by omega))) (fun _ => ?_)
        refine rs_aload_n ri_206_1135 rfl rfl ?_
        refine rs_iload ri_206_1136 rfl rfl ?_
        refine rs_iload ri_206_1138 rfl rfl ?_
        refine rs_iload ri_206_1140 rfl rfl ?_
        refine rs_iconst (v := nI 0) ri_206_1142 rfl (by decide) ?_
        refine rs_virt (c := 4) (As := [.int (nI (10 * a + b)), .int (nI N), .int (nI r), .int (nI 0)]) (r := []) ri_206_1143 rfl (by decide) rm_94.2.2.2 rm_94.2.2.1 rfl rfl rfl (by decide) (lr_4 hz.1.1) (Nat.le_of_ble_eq_true rfl) (hcs) (by omega) (cu_pay (X := X) hz ha hb hab hN (by omega) (by decide)) ?_
        rintro v M1 ⟨f1, q1⟩
        rw [f1]
        show ro_w X _ 206 _ 1146 [(28, .int (nI r)), (26, .double y), (24, .double x), (23, .int (nI N)), (22, .int (nI (10 * a + b))), (21, .int (nI b)), (20, .int (nI a)), (0, .ref 0), (1, .ref 4), (2, .int (nI (np X)))] [.long ((lo_f (pa_P od a b N S 0 r) (12 ^ N) 0))] M1 cs
        have hz1 := zo_q hz q1
        refine rs_l2d (r := FP.l2d ((lo_f (pa_P od a b N S 0 r) (12 ^ N) 0))) ri_206_1146 rfl rfl ?_
        refine rs_aload_n ri_206_1147 rfl rfl ?_
        refine rs_iload ri_206_1148 rfl rfl ?_
        refine rs_iload ri_206_1150 rfl rfl ?_
        refine rs_iload ri_206_1152 rfl rfl ?_
        refine rs_iconst (v := nI 1) ri_206_1154 rfl (by decide) ?_
        refine rs_virt (c := 4) (As := [.int (nI (10 * a + b)), .int (nI N), .int (nI r), .int (nI 1)]) (r := [.double (FP.l2d ((lo_f (pa_P od a b N S 0 r) (12 ^ N) 0)))]) ri_206_1155 rfl (by decide) rm_94.2.2.2 rm_94.2.2.1 rfl rfl rfl (by decide) (lr_4 hz1.1.1) (Nat.le_of_ble_eq_true rfl) (hcs) (by omega) (cu_pay (X := X) hz1 ha hb hab hN (by omega) (by decide)) ?_
        rintro v M2 ⟨f2, q2⟩
        rw [f2]
        show ro_w X _ 206 _ 1158 [(28, .int (nI r)), (26, .double y), (24, .double x), (23, .int (nI N)), (22, .int (nI (10 * a + b))), (21, .int (nI b)), (20, .int (nI a)), (0, .ref 0), (1, .ref 4), (2, .int (nI (np X)))] [.long ((lo_f (pa_P od a b N S 0 r) (12 ^ N) 1)), .double (FP.l2d ((lo_f (pa_P od a b N S 0 r) (12 ^ N) 0)))] M2 cs
        have hz2 := zo_q hz1 q2
        refine rs_l2d (r := FP.l2d ((lo_f (pa_P od a b N S 0 r) (12 ^ N) 1))) ri_206_1158 rfl rfl ?_
        refine rs_ddiv (r := is) ri_206_1159 rfl (show vf_n64 (fq _ _) by rw [← his]; exact fp_P_ok i1) his.symm ?_
        refine rs_dstore (lv2 := [(29, .double is), (28, .int (nI r)), (26, .double y), (24, .double x), (23, .int (nI N)), (22, .int (nI (10 * a + b))), (21, .int (nI b)), (20, .int (nI a)), (0, .ref 0), (1, .ref 4), (2, .int (nI (np X)))]) ri_206_1160 rfl rm_206.1 (by decide) rfl ?_
        refine rs_dload ri_206_1162 rfl rfl ?_
        refine rs_dconst (v := FP.dconst0) ri_206_1164 rfl rfl ?_
        refine rs_dcmp (r := r1) ri_206_1165 rfl (hr1) ?_
        refine rs_if_lt (t := 1209) ri_206_1166 rfl rfl (fun q => absurd q (hr1b)) (fun _ => ?_)
        refine rs_dload ri_206_1169 rfl rfl ?_
        refine rs_dconst (v := FP.dconst1) ri_206_1171 rfl rfl ?_
        refine rs_dcmp (r := r2) ri_206_1172 rfl (hr2) ?_
        refine rs_if_gt (t := 1209) ri_206_1173 rfl rfl (fun q => absurd q (hr2b)) (fun _ => ?_)
        refine rs_iload ri_206_1176 rfl rfl ?_
        refine rs_iload ri_206_1178 rfl rfl ?_
        refine rs_icmp_le (t := 1190) ri_206_1180 rfl rfl (fun _ => ?_) (fun q => absurd (nI_le (a := r) (b := N) (by omega) (by omega)) q)
        refine rs_iload ri_206_1190 rfl rfl ?_
        refine rs_aload_n ri_206_1192 rfl rfl ?_
        refine rs_iload ri_206_1193 rfl rfl ?_
        refine rs_iconst (v := nI 0) ri_206_1195 rfl (by decide) ?_
        refine rs_stat (As := [.ref 0, .int (nI a), .int (nI 0)]) (r := [.int (nI r)]) ri_206_1196 rfl rm_195.2.2.2 rfl rfl rfl (Nat.le_of_ble_eq_true rfl) (hcs) (by omega) (lx_195_0 hX (by omega)) ?_
        rintro v M9 ⟨g1, g2⟩
        rw [g1, g2]
        show ro_w X _ 206 _ 1199 [(29, .double is), (28, .int (nI r)), (26, .double y), (24, .double x), (23, .int (nI N)), (22, .int (nI (10 * a + b))), (21, .int (nI b)), (20, .int (nI a)), (0, .ref 0), (1, .ref 4), (2, .int (nI (np X)))] [.int (nI (on0 X a)), .int (nI r)] M2 cs
        refine rs_icmp_le (t := 1211) ri_206_1199 rfl rfl (fun _ => ?_) (fun q => absurd (nI_le (a := r) (b := on0 X a) (by omega) (by omega)) q)
        refine rs_dload ri_206_1211 rfl rfl ?_
        refine rs_dload ri_206_1213 rfl rfl ?_
        refine rs_dadd (r := FP.dadd x is) ri_206_1215 rfl (o1) rfl ?_
        refine rs_dstore (lv2 := [(24, .double (FP.dadd x is)), (29, .double is), (28, .int (nI r)), (26, .double y), (23, .int (nI N)), (22, .int (nI (10 * a + b))), (21, .int (nI b)), (20, .int (nI a)), (0, .ref 0), (1, .ref 4), (2, .int (nI (np X)))]) ri_206_1216 rfl rm_206.1 (by decide) rfl ?_
        refine rs_dload ri_206_1218 rfl rfl ?_
        refine rs_iload ri_206_1220 rfl rfl ?_
        refine rs_i2d (r := FP.i2d (nI r)) ri_206_1222 rfl rfl ?_
        refine rs_dload ri_206_1223 rfl rfl ?_
        refine rs_dmul (r := FP.dmul (FP.i2d (nI r)) is) ri_206_1225 rfl (o2) rfl ?_
        refine rs_dadd (r := FP.dadd y (FP.dmul (FP.i2d (nI r)) is)) ri_206_1226 rfl (o3) rfl ?_
        refine rs_dstore (lv2 := [(26, .double (FP.dadd y (FP.dmul (FP.i2d (nI r)) is))), (24, .double (FP.dadd x is)), (29, .double is), (28, .int (nI r)), (23, .int (nI N)), (22, .int (nI (10 * a + b))), (21, .int (nI b)), (20, .int (nI a)), (0, .ref 0), (1, .ref 4), (2, .int (nI (np X)))]) ri_206_1227 rfl rm_206.1 (by decide) rfl ?_
        refine rs_iinc (v := nI (r + 1)) (lv2 := [(28, .int (nI (r + 1))), (26, .double (FP.dadd y (FP.dmul (FP.i2d (nI r)) is))), (24, .double (FP.dadd x is)), (29, .double is), (23, .int (nI N)), (22, .int (nI (10 * a + b))), (21, .int (nI b)), (20, .int (nI a)), (0, .ref 0), (1, .ref 4), (2, .int (nI (np X)))]) ri_206_1229 rfl rfl (nI_1 r) rm_206.1 (by decide) rfl ?_
        refine rs_goto (t := 1128) ri_206_1232 rfl ?_
        refine ro_w_lv (lv := [(28, .int (nI (r + 1))), (26, .double (FP.dadd y (FP.dmul (FP.i2d (nI r)) is))), (24, .double (FP.dadd x is)), (23, .int (nI N)), (22, .int (nI (10 * a + b))), (21, .int (nI b)), (20, .int (nI a)), (0, .ref 0), (1, .ref 4), (2, .int (nI (np X)))]) (ro_sub_c rfl (ro_sub_c rfl (ro_sub_c rfl (ro_sub_c rfl (ro_sub_c rfl (ro_sub_c rfl (ro_sub_c rfl (ro_sub_c rfl (ro_sub_c rfl (ro_sub_c rfl (ro_sub_n rfl))))))))))) ?_
        exact ih (r + 1) M2 _ _ (by omega) hz2 o4
      · refine rs_iload ri_206_1128 rfl rfl ?_
        refine rs_bipush (v := nI 9) ri_206_1130 rfl (by decide) ?_
        refine rs_icmp_ge (t := 1235) ri_206_1132 rfl rfl (fun q => absurd q (nI_ge (a := r) (b := 9) (by omega) (by omega))) (fun _ => ?_)
        refine rs_aload_n ri_206_1135 rfl rfl ?_
        refine rs_iload ri_206_1136 rfl rfl ?_
        refine rs_iload ri_206_1138 rfl rfl ?_
        refine rs_iload ri_206_1140 rfl rfl ?_
        refine rs_iconst (v := nI 0) ri_206_1142 rfl (by decide) ?_
        refine rs_virt (c := 4) (As := [.int (nI (10 * a + b)), .int (nI N), .int (nI r), .int (nI 0)]) (r := []) ri_206_1143 rfl (by decide) rm_94.2.2.2 rm_94.2.2.1 rfl rfl rfl (by decide) (lr_4 hz.1.1) (Nat.le_of_ble_eq_true rfl) (hcs) (by omega) (cu_pay (X := X) hz ha hb hab hN (by omega) (by decide)) ?_
        rintro v M1 ⟨f1, q1⟩
        rw [f1]
        show ro_w X _ 206 _ 1146 [(28, .int (nI r)), (26, .double y), (24, .double x), (23, .int (nI N)), (22, .int (nI (10 * a + b))), (21, .int (nI b)), (20, .int (nI a)), (0, .ref 0), (1, .ref 4), (2, .int (nI (np X)))] [.long ((lo_f (pa_P od a b N S 0 r) (12 ^ N) 0))] M1 cs
        have hz1 := zo_q hz q1
        refine rs_l2d (r := FP.l2d ((lo_f (pa_P od a b N S 0 r) (12 ^ N) 0))) ri_206_1146 rfl rfl ?_
        refine rs_aload_n ri_206_1147 rfl rfl ?_
        refine rs_iload ri_206_1148 rfl rfl ?_
        refine rs_iload ri_206_1150 rfl rfl ?_
        refine rs_iload ri_206_1152 rfl rfl ?_
        refine rs_iconst (v := nI 1) ri_206_1154 rfl (by decide) ?_
        refine rs_virt (c := 4) (As := [.int (nI (10 * a + b)), .int (nI N), .int (nI r), .int (nI 1)]) (r := [.double (FP.l2d ((lo_f (pa_P od a b N S 0 r) (12 ^ N) 0)))]) ri_206_1155 rfl (by decide) rm_94.2.2.2 rm_94.2.2.1 rfl rfl rfl (by decide) (lr_4 hz1.1.1) (Nat.le_of_ble_eq_true rfl) (hcs) (by omega) (cu_pay (X := X) hz1 ha hb hab hN (by omega) (by decide)) ?_
        rintro v M2 ⟨f2, q2⟩
        rw [f2]
        show ro_w X _ 206 _ 1158 [(28, .int (nI r)), (26, .double y), (24, .double x), (23, .int (nI N)), (22, .int (nI (10 * a + b))), (21, .int (nI b)), (20, .int (nI a)), (0, .ref 0), (1, .ref 4), (2, .int (nI (np X)))] [.long ((lo_f (pa_P od a b N S 0 r) (12 ^ N) 1)), .double (FP.l2d ((lo_f (pa_P od a b N S 0 r) (12 ^ N) 0)))] M2 cs
        have hz2 := zo_q hz1 q2
        refine rs_l2d (r := FP.l2d ((lo_f (pa_P od a b N S 0 r) (12 ^ N) 1))) ri_206_1158 rfl rfl ?_
        refine rs_ddiv (r := is) ri_206_1159 rfl (show vf_n64 (fq _ _) by rw [← his]; exact fp_P_ok i1) his.symm ?_
        refine rs_dstore (lv2 := [(29, .double is), (28, .int (nI r)), (26, .double y), (24, .double x), (23, .int (nI N)), (22, .int (nI (10 * a + b))), (21, .int (nI b)), (20, .int (nI a)), (0, .ref 0), (1, .ref 4), (2, .int (nI (np X)))]) ri_206_1160 rfl rm_206.1 (by decide) rfl ?_
        refine rs_dload ri_206_1162 rfl rfl ?_
        refine rs_dconst (v := FP.dconst0) ri_206_1164 rfl rfl ?_
        refine rs_dcmp (r := r1) ri_206_1165 rfl (hr1) ?_
        refine rs_if_lt (t := 1209) ri_206_1166 rfl rfl (fun q => absurd q (hr1b)) (fun _ => ?_)
        refine rs_dload ri_206_1169 rfl rfl ?_
        refine rs_dconst (v := FP.dconst1) ri_206_1171 rfl rfl ?_
        refine rs_dcmp (r := r2) ri_206_1172 rfl (hr2) ?_
        refine rs_if_gt (t := 1209) ri_206_1173 rfl rfl (fun q => absurd q (hr2b)) (fun _ => ?_)
        refine rs_iload ri_206_1176 rfl rfl ?_
        refine rs_iload ri_206_1178 rfl rfl ?_
        refine rs_icmp_le (t := 1190) ri_206_1180 rfl rfl (fun _ => ?_) (fun q => absurd (nI_le (a := r) (b := N) (by omega) (by omega)) q)
        refine rs_iload ri_206_1190 rfl rfl ?_
        refine rs_aload_n ri_206_1192 rfl rfl ?_
        refine rs_iload ri_206_1193 rfl rfl ?_
        refine rs_iconst (v := nI 0) ri_206_1195 rfl (by decide) ?_
        refine rs_stat (As := [.ref 0, .int (nI a), .int (nI 0)]) (r := [.int (nI r)]) ri_206_1196 rfl rm_195.2.2.2 rfl rfl rfl (Nat.le_of_ble_eq_true rfl) (hcs) (by omega) (lx_195_0 hX (by omega)) ?_
        rintro v M9 ⟨g1, g2⟩
        rw [g1, g2]
        show ro_w X _ 206 _ 1199 [(29, .double is), (28, .int (nI r)), (26, .double y), (24, .double x), (23, .int (nI N)), (22, .int (nI (10 * a + b))), (21, .int (nI b)), (20, .int (nI a)), (0, .ref 0), (1, .ref 4), (2, .int (nI (np X)))] [.int (nI (on0 X a)), .int (nI r)] M2 cs
        refine rs_icmp_le (t := 1211) ri_206_1199 rfl rfl (fun q => absurd q (nI_ge (a := on0 X a) (b := r) (by omega) (by omega))) (fun _ => ?_)
        refine rs_dload ri_206_1202 rfl rfl ?_
        refine rs_dconst (v := FP.dconst0) ri_206_1204 rfl rfl ?_
        refine rs_dcmp (r := nI 0) ri_206_1205 rfl (z2 (by omega)) ?_
        refine rs_if_eq (t := 1211) ri_206_1206 rfl rfl (fun _ => ?_) (fun q => absurd (by decide) q)
        refine rs_dload ri_206_1211 rfl rfl ?_
        refine rs_dload ri_206_1213 rfl rfl ?_
        refine rs_dadd (r := FP.dadd x is) ri_206_1215 rfl (o1) rfl ?_
        refine rs_dstore (lv2 := [(24, .double (FP.dadd x is)), (29, .double is), (28, .int (nI r)), (26, .double y), (23, .int (nI N)), (22, .int (nI (10 * a + b))), (21, .int (nI b)), (20, .int (nI a)), (0, .ref 0), (1, .ref 4), (2, .int (nI (np X)))]) ri_206_1216 rfl rm_206.1 (by decide) rfl ?_
        refine rs_dload ri_206_1218 rfl rfl ?_
        refine rs_iload ri_206_1220 rfl rfl ?_
        refine rs_i2d (r := FP.i2d (nI r)) ri_206_1222 rfl rfl ?_
        refine rs_dload ri_206_1223 rfl rfl ?_
        refine rs_dmul (r := FP.dmul (FP.i2d (nI r)) is) ri_206_1225 rfl (o2) rfl ?_
        refine rs_dadd (r := FP.dadd y (FP.dmul (FP.i2d (nI r)) is)) ri_206_1226 rfl (o3) rfl ?_
        refine rs_dstore (lv2 := [(26, .double (FP.dadd y (FP.dmul (FP.i2d (nI r)) is))), (24, .double (FP.dadd x is)), (29, .double is), (28, .int (nI r)), (23, .int (nI N)), (22, .int (nI (10 * a + b))), (21, .int (nI b)), (20, .int (nI a)), (0, .ref 0), (1, .ref 4), (2, .int (nI (np X)))]) ri_206_1227 rfl rm_206.1 (by decide) rfl ?_
        refine rs_iinc (v := nI (r + 1)) (lv2 := [(28, .int (nI (r + 1))), (26, .double (FP.dadd y (FP.dmul (FP.i2d (nI r)) is))), (24, .double (FP.dadd x is)), (29, .double is), (23, .int (nI N)), (22, .int (nI (10 * a + b))), (21, .int (nI b)), (20, .int (nI a)), (0, .ref 0), (1, .ref 4), (2, .int (nI (np X)))]) ri_206_1229 rfl rfl (nI_1 r) rm_206.1 (by decide) rfl ?_
        refine rs_goto (t := 1128) ri_206_1232 rfl ?_
        refine ro_w_lv (lv := [(28, .int (nI (r + 1))), (26, .double (FP.dadd y (FP.dmul (FP.i2d (nI r)) is))), (24, .double (FP.dadd x is)), (23, .int (nI N)), (22, .int (nI (10 * a + b))), (21, .int (nI b)), (20, .int (nI a)), (0, .ref 0), (1, .ref 4), (2, .int (nI (np X)))]) (ro_sub_c rfl (ro_sub_c rfl (ro_sub_c rfl (ro_sub_c rfl (ro_sub_c rfl (ro_sub_c rfl (ro_sub_c rfl (ro_sub_c rfl (ro_sub_c rfl (ro_sub_c rfl (ro_sub_n rfl))))))))))) ?_
        exact ih (r + 1) M2 _ _ (by omega) hz2 o4
    · by_cases c2 : r ≤ on0 X a
      · refine rs_iload ri_206_1128 rfl rfl ?_
        refine rs_bipush (v := nI 9) ri_206_1130 rfl (by decide) ?_
        refine rs_icmp_ge (t := 1235) ri_206_1132 rfl rfl (fun q => absurd q (nI_ge (a := r) (b := 9) (by omega) (by omega))) (fun _ => ?_)
        refine rs_aload_n ri_206_1135 rfl rfl ?_
        refine rs_iload ri_206_1136 rfl rfl ?_
        refine rs_iload ri_206_1138 rfl rfl ?_
        refine rs_iload ri_206_1140 rfl rfl ?_
        refine rs_iconst (v := nI 0) ri_206_1142 rfl (by decide) ?_
        refine rs_virt (c := 4) (As := [.int (nI (10 * a + b)), .int (nI N), .int (nI r), .int (nI 0)]) (r := []) ri_206_1143 rfl (by decide) rm_94.2.2.2 rm_94.2.2.1 rfl rfl rfl (by decide) (lr_4 hz.1.1) (Nat.le_of_ble_eq_true rfl) (hcs) (by omega) (cu_pay (X := X) hz ha hb hab hN (by omega) (by decide)) ?_
        rintro v M1 ⟨f1, q1⟩
        rw [f1]
        show ro_w X _ 206 _ 1146 [(28, .int (nI r)), (26, .double y), (24, .double x), (23, .int (nI N)), (22, .int (nI (10 * a + b))), (21, .int (nI b)), (20, .int (nI a)), (0, .ref 0), (1, .ref 4), (2, .int (nI (np X)))] [.long ((lo_f (pa_P od a b N S 0 r) (12 ^ N) 0))] M1 cs
        have hz1 := zo_q hz q1
        refine rs_l2d (r := FP.l2d ((lo_f (pa_P od a b N S 0 r) (12 ^ N) 0))) ri_206_1146 rfl rfl ?_
        refine rs_aload_n ri_206_1147 rfl rfl ?_
        refine rs_iload ri_206_1148 rfl rfl ?_
        refine rs_iload ri_206_1150 rfl rfl ?_
        refine rs_iload ri_206_1152 rfl rfl ?_
        refine rs_iconst (v := nI 1) ri_206_1154 rfl (by decide) ?_
        refine rs_virt (c := 4) (As := [.int (nI (10 * a + b)), .int (nI N), .int (nI r), .int (nI 1)]) (r := [.double (FP.l2d ((lo_f (pa_P od a b N S 0 r) (12 ^ N) 0)))]) ri_206_1155 rfl (by decide) rm_94.2.2.2 rm_94.2.2.1 rfl rfl rfl (by decide) (lr_4 hz1.1.1) (Nat.le_of_ble_eq_true rfl) (hcs) (by omega) (cu_pay (X := X) hz1 ha hb hab hN (by omega) (by decide)) ?_
        rintro v M2 ⟨f2, q2⟩
        rw [f2]
        show ro_w X _ 206 _ 1158 [(28, .int (nI r)), (26, .double y), (24, .double x), (23, .int (nI N)), (22, .int (nI (10 * a + b))), (21, .int (nI b)), (20, .int (nI a)), (0, .ref 0), (1, .ref 4), (2, .int (nI (np X)))] [.long ((lo_f (pa_P od a b N S 0 r) (12 ^ N) 1)), .double (FP.l2d ((lo_f (pa_P od a b N S 0 r) (12 ^ N) 0)))] M2 cs
        have hz2 := zo_q hz1 q2
        refine rs_l2d (r := FP.l2d ((lo_f (pa_P od a b N S 0 r) (12 ^ N) 1))) ri_206_1158 rfl rfl ?_
        refine rs_ddiv (r := is) ri_206_1159 rfl (show vf_n64 (fq _ _) by rw [← his]; exact fp_P_ok i1) his.symm ?_
        refine rs_dstore (lv2 := [(29, .double is), (28, .int (nI r)), (26, .double y), (24, .double x), (23, .int (nI N)), (22, .int (nI (10 * a + b))), (21, .int (nI b)), (20, .int (nI a)), (0, .ref 0), (1, .ref 4), (2, .int (nI (np X)))]) ri_206_1160 rfl rm_206.1 (by decide) rfl ?_
        refine rs_dload ri_206_1162 rfl rfl ?_
        refine rs_dconst (v := FP.dconst0) ri_206_1164 rfl rfl ?_
        refine rs_dcmp (r := r1) ri_206_1165 rfl (hr1) ?_
        refine rs_if_lt (t := 1209) ri_206_1166 rfl rfl (fun q => absurd q (hr1b)) (fun _ => ?_)
        refine rs_dload ri_206_1169 rfl rfl ?_
        refine rs_dconst (v := FP.dconst1) ri_206_1171 rfl rfl ?_
        refine rs_dcmp (r := r2) ri_206_1172 rfl (hr2) ?_
        refine rs_if_gt (t := 1209) ri_206_1173 rfl rfl (fun q => absurd q (hr2b)) (fun _ => ?_)
        refine rs_iload ri_206_1176 rfl rfl ?_
        refine rs_iload ri_206_1178 rfl rfl ?_
        refine rs_icmp_le (t := 1190) ri_206_1180 rfl rfl (fun q => absurd q (nI_ge (a := N) (b := r) (by omega) (by omega))) (fun _ => ?_)
        refine rs_dload ri_206_1183 rfl rfl ?_
        refine rs_dconst (v := FP.dconst0) ri_206_1185 rfl rfl ?_
        refine rs_dcmp (r := nI 0) ri_206_1186 rfl (z1 (by omega)) ?_
        refine rs_if_ne (t := 1209) ri_206_1187 rfl rfl (fun q => absurd (by decide) q) (fun _ => ?_)
        refine rs_iload ri_206_1190 rfl rfl ?_
        refine rs_aload_n ri_206_1192 rfl rfl ?_
        refine rs_iload ri_206_1193 rfl rfl ?_
        refine rs_iconst (v := nI 0) ri_206_1195 rfl (by decide) ?_
        refine rs_stat (As := [.ref 0, .int (nI a), .int (nI 0)]) (r := [.int (nI r)]) ri_206_1196 rfl rm_195.2.2.2 rfl rfl rfl (Nat.le_of_ble_eq_true rfl) (hcs) (by omega) (lx_195_0 hX (by omega)) ?_
        rintro v M9 ⟨g1, g2⟩
        rw [g1, g2]
        show ro_w X _ 206 _ 1199 [(29, .double is), (28, .int (nI r)), (26, .double y), (24, .double x), (23, .int (nI N)), (22, .int (nI (10 * a + b))), (21, .int (nI b)), (20, .int (nI a)), (0, .ref 0), (1, .ref 4), (2, .int (nI (np X)))] [.int (nI (on0 X a)), .int (nI r)] M2 cs
        refine rs_icmp_le (t := 1211) ri_206_1199 rfl rfl (fun _ => ?_) (fun q => absurd (nI_le (a := r) (b := on0 X a) (by omega) (by omega)) q)
        refine rs_dload ri_206_1211 rfl rfl ?_
        refine rs_dload ri_206_1213 rfl rfl ?_
        refine rs_dadd (r := FP.dadd x is) ri_206_1215 rfl (o1) rfl ?_
        refine rs_dstore (lv2 := [(24, .double (FP.dadd x is)), (29, .double is), (28, .int (nI r)), (26, .double y), (23, .int (nI N)), (22, .int (nI (10 * a + b))), (21, .int (nI b)), (20, .int (nI a)), (0, .ref 0), (1, .ref 4), (2, .int (nI (np X)))]) ri_206_1216 rfl rm_206.1 (by decide) rfl ?_
        refine rs_dload ri_206_1218 rfl rfl ?_
        refine rs_iload ri_206_1220 rfl rfl ?_
        refine rs_i2d (r := FP.i2d (nI r)) ri_206_1222 rfl rfl ?_
        refine rs_dload ri_206_1223 rfl rfl ?_
        refine rs_dmul (r := FP.dmul (FP.i2d (nI r)) is) ri_206_1225 rfl (o2) rfl ?_
        refine rs_dadd (r := FP.dadd y (FP.dmul (FP.i2d (nI r)) is)) ri_206_1226 rfl (o3) rfl ?_
        refine rs_dstore (lv2 := [(26, .double (FP.dadd y (FP.dmul (FP.i2d (nI r)) is))), (24, .double (FP.dadd x is)), (29, .double is), (28, .int (nI r)), (23, .int (nI N)), (22, .int (nI (10 * a + b))), (21, .int (nI b)), (20, .int (nI a)), (0, .ref 0), (1, .ref 4), (2, .int (nI (np X)))]) ri_206_1227 rfl rm_206.1 (by decide) rfl ?_
        refine rs_iinc (v := nI (r + 1)) (lv2 := [(28, .int (nI (r + 1))), (26, .double (FP.dadd y (FP.dmul (FP.i2d (nI r)) is))), (24, .double (FP.dadd x is)), (29, .double is), (23, .int (nI N)), (22, .int (nI (10 * a + b))), (21, .int (nI b)), (20, .int (nI a)), (0, .ref 0), (1, .ref 4), (2, .int (nI (np X)))]) ri_206_1229 rfl rfl (nI_1 r) rm_206.1 (by decide) rfl ?_
        refine rs_goto (t := 1128) ri_206_1232 rfl ?_
        refine ro_w_lv (lv := [(28, .int (nI (r + 1))), (26, .double (FP.dadd y (FP.dmul (FP.i2d (nI r)) is))), (24, .double (FP.dadd x is)), (23, .int (nI N)), (22, .int (nI (10 * a + b))), (21, .int (nI b)), (20, .int (nI a)), (0, .ref 0), (1, .ref 4), (2, .int (nI (np X)))]) (ro_sub_c rfl (ro_sub_c rfl (ro_sub_c rfl (ro_sub_c rfl (ro_sub_c rfl (ro_sub_c rfl (ro_sub_c rfl (ro_sub_c rfl (ro_sub_c rfl (ro_sub_c rfl (ro_sub_n rfl))))))))))) ?_
        exact ih (r + 1) M2 _ _ (by omega) hz2 o4
      · refine rs_iload ri_206_1128 rfl rfl ?_
        refine rs_bipush (v := nI 9) ri_206_1130 rfl (by decide) ?_
        refine rs_icmp_ge (t := 1235) ri_206_1132 rfl rfl (fun q => absurd q (nI_ge (a := r) (b := 9) (by omega) (by omega))) (fun _ => ?_)
        refine rs_aload_n ri_206_1135 rfl rfl ?_
        refine rs_iload ri_206_1136 rfl rfl ?_
        refine rs_iload ri_206_1138 rfl rfl ?_
        refine rs_iload ri_206_1140 rfl rfl ?_
        refine rs_iconst (v := nI 0) ri_206_1142 rfl (by decide) ?_
        refine rs_virt (c := 4) (As := [.int (nI (10 * a + b)), .int (nI N), .int (nI r), .int (nI 0)]) (r := []) ri_206_1143 rfl (by decide) rm_94.2.2.2 rm_94.2.2.1 rfl rfl rfl (by decide) (lr_4 hz.1.1) (Nat.le_of_ble_eq_true rfl) (hcs) (by omega) (cu_pay (X := X) hz ha hb hab hN (by omega) (by decide)) ?_
        rintro v M1 ⟨f1, q1⟩
        rw [f1]
        show ro_w X _ 206 _ 1146 [(28, .int (nI r)), (26, .double y), (24, .double x), (23, .int (nI N)), (22, .int (nI (10 * a + b))), (21, .int (nI b)), (20, .int (nI a)), (0, .ref 0), (1, .ref 4), (2, .int (nI (np X)))] [.long ((lo_f (pa_P od a b N S 0 r) (12 ^ N) 0))] M1 cs
        have hz1 := zo_q hz q1
        refine rs_l2d (r := FP.l2d ((lo_f (pa_P od a b N S 0 r) (12 ^ N) 0))) ri_206_1146 rfl rfl ?_
        refine rs_aload_n ri_206_1147 rfl rfl ?_
        refine rs_iload ri_206_1148 rfl rfl ?_
        refine rs_iload ri_206_1150 rfl rfl ?_
        refine rs_iload ri_206_1152 rfl rfl ?_
        refine rs_iconst (v := nI 1) ri_206_1154 rfl (by decide) ?_
        refine rs_virt (c := 4) (As := [.int (nI (10 * a + b)), .int (nI N), .int (nI r), .int (nI 1)]) (r := [.double (FP.l2d ((lo_f (pa_P od a b N S 0 r) (12 ^ N) 0)))]) ri_206_1155 rfl (by decide) rm_94.2.2.2 rm_94.2.2.1 rfl rfl rfl (by decide) (lr_4 hz1.1.1) (Nat.le_of_ble_eq_true rfl) (hcs) (by omega) (cu_pay (X := X) hz1 ha hb hab hN (by omega) (by decide)) ?_
        rintro v M2 ⟨f2, q2⟩
        rw [f2]
        show ro_w X _ 206 _ 1158 [(28, .int (nI r)), (26, .double y), (24, .double x), (23, .int (nI N)), (22, .int (nI (10 * a + b))), (21, .int (nI b)), (20, .int (nI a)), (0, .ref 0), (1, .ref 4), (2, .int (nI (np X)))] [.long ((lo_f (pa_P od a b N S 0 r) (12 ^ N) 1)), .double (FP.l2d ((lo_f (pa_P od a b N S 0 r) (12 ^ N) 0)))] M2 cs
        have hz2 := zo_q hz1 q2
        refine rs_l2d (r := FP.l2d ((lo_f (pa_P od a b N S 0 r) (12 ^ N) 1))) ri_206_1158 rfl rfl ?_
        refine rs_ddiv (r := is) ri_206_1159 rfl (show vf_n64 (fq _ _) by rw [← his]; exact fp_P_ok i1) his.symm ?_
        refine rs_dstore (lv2 := [(29, .double is), (28, .int (nI r)), (26, .double y), (24, .double x), (23, .int (nI N)), (22, .int (nI (10 * a + b))), (21, .int (nI b)), (20, .int (nI a)), (0, .ref 0), (1, .ref 4), (2, .int (nI (np X)))]) ri_206_1160 rfl rm_206.1 (by decide) rfl ?_
        refine rs_dload ri_206_1162 rfl rfl ?_
        refine rs_dconst (v := FP.dconst0) ri_206_1164 rfl rfl ?_
        refine rs_dcmp (r := r1) ri_206_1165 rfl (hr1) ?_
        refine rs_if_lt (t := 1209) ri_206_1166 rfl rfl (fun q => absurd q (hr1b)) (fun _ => ?_)
        refine rs_dload ri_206_1169 rfl rfl ?_
        refine rs_dconst (v := FP.dconst1) ri_206_1171 rfl rfl ?_
        refine rs_dcmp (r := r2) ri_206_1172 rfl (hr2) ?_
        refine rs_if_gt (t := 1209) ri_206_1173 rfl rfl (fun q => absurd q (hr2b)) (fun _ => ?_)
        refine rs_iload ri_206_1176 rfl rfl ?_
        refine rs_iload ri_206_1178 rfl rfl ?_
        refine rs_icmp_le (t := 1190) ri_206_1180 rfl rfl (fun q => absurd q (nI_ge (a := N) (b := r) (by omega) (by omega))) (fun _ => ?_)
        refine rs_dload ri_206_1183 rfl rfl ?_
        refine rs_dconst (v := FP.dconst0) ri_206_1185 rfl rfl ?_
        refine rs_dcmp (r := nI 0) ri_206_1186 rfl (z1 (by omega)) ?_
        refine rs_if_ne (t := 1209) ri_206_1187 rfl rfl (fun q => absurd (by decide) q) (fun _ => ?_)
        refine rs_iload ri_206_1190 rfl rfl ?_
        refine rs_aload_n ri_206_1192 rfl rfl ?_
        refine rs_iload ri_206_1193 rfl rfl ?_
        refine rs_iconst (v := nI 0) ri_206_1195 rfl (by decide) ?_
        refine rs_stat (As := [.ref 0, .int (nI a), .int (nI 0)]) (r := [.int (nI r)]) ri_206_1196 rfl rm_195.2.2.2 rfl rfl rfl (Nat.le_of_ble_eq_true rfl) (hcs) (by omega) (lx_195_0 hX (by omega)) ?_
        rintro v M9 ⟨g1, g2⟩
        rw [g1, g2]
        show ro_w X _ 206 _ 1199 [(29, .double is), (28, .int (nI r)), (26, .double y), (24, .double x), (23, .int (nI N)), (22, .int (nI (10 * a + b))), (21, .int (nI b)), (20, .int (nI a)), (0, .ref 0), (1, .ref 4), (2, .int (nI (np X)))] [.int (nI (on0 X a)), .int (nI r)] M2 cs
        refine rs_icmp_le (t := 1211) ri_206_1199 rfl rfl (fun q => absurd q (nI_ge (a := on0 X a) (b := r) (by omega) (by omega))) (fun _ => ?_)
        refine rs_dload ri_206_1202 rfl rfl ?_
        refine rs_dconst (v := FP.dconst0) ri_206_1204 rfl rfl ?_
        refine rs_dcmp (r := nI 0) ri_206_1205 rfl (z2 (by omega)) ?_
        refine rs_if_eq (t := 1211) ri_206_1206 rfl rfl (fun _ => ?_) (fun q => absurd (by decide) q)
        refine rs_dload ri_206_1211 rfl rfl ?_
        refine rs_dload ri_206_1213 rfl rfl ?_
        refine rs_dadd (r := FP.dadd x is) ri_206_1215 rfl (o1) rfl ?_
        refine rs_dstore (lv2 := [(24, .double (FP.dadd x is)), (29, .double is), (28, .int (nI r)), (26, .double y), (23, .int (nI N)), (22, .int (nI (10 * a + b))), (21, .int (nI b)), (20, .int (nI a)), (0, .ref 0), (1, .ref 4), (2, .int (nI (np X)))]) ri_206_1216 rfl rm_206.1 (by decide) rfl ?_
        refine rs_dload ri_206_1218 rfl rfl ?_
        refine rs_iload ri_206_1220 rfl rfl ?_
        refine rs_i2d (r := FP.i2d (nI r)) ri_206_1222 rfl rfl ?_
        refine rs_dload ri_206_1223 rfl rfl ?_
        refine rs_dmul (r := FP.dmul (FP.i2d (nI r)) is) ri_206_1225 rfl (o2) rfl ?_
        refine rs_dadd (r := FP.dadd y (FP.dmul (FP.i2d (nI r)) is)) ri_206_1226 rfl (o3) rfl ?_
        refine rs_dstore (lv2 := [(26, .double (FP.dadd y (FP.dmul (FP.i2d (nI r)) is))), (24, .double (FP.dadd x is)), (29, .double is), (28, .int (nI r)), (23, .int (nI N)), (22, .int (nI (10 * a + b))), (21, .int (nI b)), (20, .int (nI a)), (0, .ref 0), (1, .ref 4), (2, .int (nI (np X)))]) ri_206_1227 rfl rm_206.1 (by decide) rfl ?_
        refine rs_iinc (v := nI (r + 1)) (lv2 := [(28, .int (nI (r + 1))), (26, .double (FP.dadd y (FP.dmul (FP.i2d (nI r)) is))), (24, .double (FP.dadd x is)), (29, .double is), (23, .int (nI N)), (22, .int (nI (10 * a + b))), (21, .int (nI b)), (20, .int (nI a)), (0, .ref 0), (1, .ref 4), (2, .int (nI (np X)))]) ri_206_1229 rfl rfl (nI_1 r) rm_206.1 (by decide) rfl ?_
        refine rs_goto (t := 1128) ri_206_1232 rfl ?_
        refine ro_w_lv (lv := [(28, .int (nI (r + 1))), (26, .double (FP.dadd y (FP.dmul (FP.i2d (nI r)) is))), (24, .double (FP.dadd x is)), (23, .int (nI N)), (22, .int (nI (10 * a + b))), (21, .int (nI b)), (20, .int (nI a)), (0, .ref 0), (1, .ref 4), (2, .int (nI (np X)))]) (ro_sub_c rfl (ro_sub_c rfl (ro_sub_c rfl (ro_sub_c rfl (ro_sub_c rfl (ro_sub_c rfl (ro_sub_c rfl (ro_sub_c rfl (ro_sub_c rfl (ro_sub_c rfl (ro_sub_n rfl))))))))))) ?_
        exact ih (r + 1) M2 _ _ (by omega) hz2 o4
theorem lq_1235 {a b N : Nat} (hcs : cs.1 ≤ (ro_lim 206).1 ∧ cs.2 ≤ (ro_lim 206).2) (ha : a < np X) (hb : b < np X) (hab : a ≠ b) (hN : N ≤ 8) {M : ro_Mm} {x y : UInt64} (hz : zo X L od S M) (hx : pay_x (fun q => pa_P od a b N S 0 q) (12 ^ N) 9 x y) (H : ∀ M, zo X L od S M → ro_w X 2000 206 lw_PP 1285 [(21, .int (nI b)), (20, .int (nI a)), (0, .ref 0), (1, .ref 4), (2, .int (nI (np X)))] [] M cs) : ro_w X 2000 206 lw_PP 1235 [(26, .double y), (24, .double x), (23, .int (nI N)), (22, .int (nI (10 * a + b))), (21, .int (nI b)), (20, .int (nI a)), (0, .ref 0), (1, .ref 4), (2, .int (nI (np X)))] [] M cs := by
  have hnp := np_b (X := X)
  have hod := zo_od hz
  have hT := pw_pos N
  have h12 := pw_8 hN
  have W0 := fp_W0
  have UW := fp_W2
  have hsum := pa_sum (i := a) (j := b) hod N S 0 (by omega)
  have hmn := sm_mn (w := fun q => pa_P od a b N S 0 q) 8 1
  have hm8 := sm_8 (w := fun q => pa_P od a b N S 0 q) (n := 9) (by omega)
  obtain ⟨p1, p2, a1, a2, b1, b2⟩ := hx
  have hm1 : sm_n (fun q => q * pa_P od a b N S 0 q) 9 = mn_s (fun q => pa_P od a b N S 0 q) 8 1 := by
    have z : sm_n (fun q => q * pa_P od a b N S 0 q) 1 = 0 := by
      show 0 + 0 * pa_P od a b N S 0 0 = 0
      rw [Nat.zero_mul]
    rw [z, Nat.zero_add] at hmn
    exact hmn
  rw [hm1] at b1 b2 hm8
  rw [hsum] at a1 a2 hm8
  generalize hm : mn_s (fun q => pa_P od a b N S 0 q) 8 1 = m at *
  obtain ⟨T, hTe⟩ : ∃ T, T = 12 ^ N := ⟨_, rfl⟩
  rw [← hTe] at hT h12 hsum a1 a2 b1 b2 hm8
  have x1 : fp_Z x ≤ fp_U + 18 * fp_W := by
    have : fp_Z x * T ≤ (fp_U + 18 * fp_W) * T := by
      rw [Nat.add_mul, Nat.mul_comm fp_U, Nat.mul_assoc 18]; omega
    exact Nat.le_of_mul_le_mul_right this hT
  have x2 : fp_U ≤ fp_Z x + 18 * fp_W := by
    have : fp_U * T ≤ (fp_Z x + 18 * fp_W) * T := by
      rw [Nat.add_mul, Nat.mul_comm fp_U, Nat.mul_assoc 18]; omega
    exact Nat.le_of_mul_le_mul_right this hT
  obtain ⟨s1, s2, s3⟩ := fp_sub p1 fp_1.1 (n := 18 * fp_W) (by rw [fp_1.2]; omega) (by rw [fp_1.2]; omega) (by omega)
  obtain ⟨e1, e2, e3⟩ := fp_e9_is
  obtain ⟨r1, hr1, hr1b, hr1c⟩ := fc_le s2 e1 (by omega) .l
  obtain ⟨is, his⟩ : ∃ is, is = fq m (12 ^ N) := ⟨_, rfl⟩
  obtain ⟨i1, i2, i3⟩ := fq_x (a := m) (b := T) hT (by omega) (by omega)
  have his2 : is = fq m T := by rw [his, hTe]
  rw [← his2] at i1 i2 i3
  have y1 : fp_Z y ≤ fp_Z is + 91 * fp_W := by
    have : fp_Z y * T ≤ (fp_Z is + 91 * fp_W) * T := by
      rw [Nat.add_mul, Nat.mul_assoc 91]; omega
    exact Nat.le_of_mul_le_mul_right this hT
  have y2 : fp_Z is ≤ fp_Z y + 91 * fp_W := by
    have : fp_Z is * T ≤ (fp_Z y + 91 * fp_W) * T := by
      rw [Nat.add_mul, Nat.mul_assoc 91]; omega
    exact Nat.le_of_mul_le_mul_right this hT
  obtain ⟨t1, t2, t3⟩ := fp_sub p2 i1 (n := 91 * fp_W) y1 y2 (by omega)
  obtain ⟨r2, hr2, hr2b, hr2c⟩ := fc_le t2 e1 (by omega) .l
  refine rs_dload ri_206_1235 rfl rfl ?_
  refine rs_dconst (v := FP.dconst1) ri_206_1237 rfl rfl ?_
  refine rs_dsub (r := FP.dsub x (FP.dconst1)) ri_206_1238 rfl (s1) rfl ?_
  refine rs_abs ri_206_1239 rfl (Nat.le_of_ble_eq_true rfl) (s1) rfl ?_
  refine rs_ldc2x (v := fp_e9) ri_206_1242 rfl rfl rfl ?_
  refine rs_dcmp (r := r1) ri_206_1245 rfl (hr1) ?_
  refine rs_if_gt (t := 1283) ri_206_1246 rfl rfl (fun q => absurd q (hr1b)) (fun _ => ?_)
  refine rs_dload ri_206_1249 rfl rfl ?_
  refine rs_aload_n ri_206_1251 rfl rfl ?_
  refine rs_iload ri_206_1252 rfl rfl ?_
  refine rs_iload ri_206_1254 rfl rfl ?_
  refine rs_iconst (v := nI 0) ri_206_1256 rfl (by decide) ?_
  refine rs_virt (c := 4) (As := [.int (nI (10 * a + b)), .int (nI N), .int (nI 0)]) (r := [.double y]) ri_206_1257 rfl (by decide) rm_103.2.2.2 rm_103.2.2.1 rfl rfl rfl (by decide) (lr_4 hz.1.1) (Nat.le_of_ble_eq_true rfl) (hcs) (by omega) (cu_mean (X := X) hz ha hb hab hN (by decide)) ?_
  rintro v M1 ⟨f1, q1⟩
  rw [f1]
  show ro_w X _ 206 _ 1260 [(26, .double y), (24, .double x), (23, .int (nI N)), (22, .int (nI (10 * a + b))), (21, .int (nI b)), (20, .int (nI a)), (0, .ref 0), (1, .ref 4), (2, .int (nI (np X)))] [.long ((lo_f (mn_s (fun q => pa_P od a b N S 0 q) 8 1) (12 ^ N) 0)), .double y] M1 cs
  have hz1 := zo_q hz q1
  rw [hm]
  refine rs_l2d (r := FP.l2d ((lo_f m (12 ^ N) 0))) ri_206_1260 rfl rfl ?_
  refine rs_aload_n ri_206_1261 rfl rfl ?_
  refine rs_iload ri_206_1262 rfl rfl ?_
  refine rs_iload ri_206_1264 rfl rfl ?_
  refine rs_iconst (v := nI 1) ri_206_1266 rfl (by decide) ?_
  refine rs_virt (c := 4) (As := [.int (nI (10 * a + b)), .int (nI N), .int (nI 1)]) (r := [.double (FP.l2d ((lo_f m (12 ^ N) 0))), .double y]) ri_206_1267 rfl (by decide) rm_103.2.2.2 rm_103.2.2.1 rfl rfl rfl (by decide) (lr_4 hz1.1.1) (Nat.le_of_ble_eq_true rfl) (hcs) (by omega) (cu_mean (X := X) hz1 ha hb hab hN (by decide)) ?_
  rintro v M2 ⟨f2, q2⟩
  rw [f2]
  show ro_w X _ 206 _ 1270 [(26, .double y), (24, .double x), (23, .int (nI N)), (22, .int (nI (10 * a + b))), (21, .int (nI b)), (20, .int (nI a)), (0, .ref 0), (1, .ref 4), (2, .int (nI (np X)))] [.long ((lo_f (mn_s (fun q => pa_P od a b N S 0 q) 8 1) (12 ^ N) 1)), .double (FP.l2d ((lo_f m (12 ^ N) 0))), .double y] M2 cs
  have hz2 := zo_q hz1 q2
  rw [hm]
  refine rs_l2d (r := FP.l2d ((lo_f m (12 ^ N) 1))) ri_206_1270 rfl rfl ?_
  refine rs_ddiv (r := is) ri_206_1271 rfl (show vf_n64 (fq _ _) by rw [← his]; exact fp_P_ok i1) his.symm ?_
  refine rs_dsub (r := FP.dsub y is) ri_206_1272 rfl (t1) rfl ?_
  refine rs_abs ri_206_1273 rfl (Nat.le_of_ble_eq_true rfl) (t1) rfl ?_
  refine rs_ldc2x (v := fp_e9) ri_206_1276 rfl rfl rfl ?_
  refine rs_dcmp (r := r2) ri_206_1279 rfl (hr2) ?_
  refine rs_if_le (t := 1285) ri_206_1280 rfl rfl (fun _ => ?_) (fun q => absurd (hr2c) q)
  refine ro_w_lv (lv := [(21, .int (nI b)), (20, .int (nI a)), (0, .ref 0), (1, .ref 4), (2, .int (nI (np X)))]) (ro_sub_c rfl (ro_sub_c rfl (ro_sub_c rfl (ro_sub_c rfl (ro_sub_c rfl (ro_sub_n rfl)))))) ?_
  exact H M2 hz2
theorem lq_1079 {a : Nat} (hcs : cs.1 ≤ (ro_lim 206).1 ∧ cs.2 ≤ (ro_lim 206).2) (hX : X.1 ≤ 260) (ha : a < np X) (H : ∀ M, zo X L od S M → ro_w X 2000 206 lw_PP 1291 [(20, .int (nI a)), (0, .ref 0), (1, .ref 4), (2, .int (nI (np X)))] [] M cs) : ∀ e b M, b + e = np X → zo X L od S M → ro_w X 2000 206 lw_PP 1079 [(21, .int (nI b)), (20, .int (nI a)), (0, .ref 0), (1, .ref 4), (2, .int (nI (np X)))] [] M cs := by
  have hnp := np_b (X := X)
  intro e
  induction e with
  | zero =>
    intro b M hbe hz
    refine rs_iload ri_206_1079 rfl rfl ?_
    refine rs_iload_n ri_206_1081 rfl rfl ?_
    refine rs_icmp_ge (t := 1291) ri_206_1082 rfl rfl (fun _ => ?_) (fun q => absurd (nI_le (a := np X) (b := b) (by omega) (by omega)) q)
    refine ro_w_lv (lv := [(20, .int (nI a)), (0, .ref 0), (1, .ref 4), (2, .int (nI (np X)))]) (ro_sub_c rfl (ro_sub_c rfl (ro_sub_c rfl (ro_sub_c rfl (ro_sub_n rfl))))) ?_
    exact H M hz
  | succ e ih =>
    intro b M hbe hz
    have GO : ∀ M, zo X L od S M → ro_w X 2000 206 lw_PP 1285 [(21, .int (nI b)), (20, .int (nI a)), (0, .ref 0), (1, .ref 4), (2, .int (nI (np X)))] [] M cs := fun M hz => by
      refine rs_iinc (v := nI (b + 1)) (lv2 := [(21, .int (nI (b + 1))), (20, .int (nI a)), (0, .ref 0), (1, .ref 4), (2, .int (nI (np X)))]) ri_206_1285 rfl rfl (nI_1 b) rm_206.1 (by decide) rfl ?_
      refine rs_goto (t := 1079) ri_206_1288 rfl ?_
      exact ih (b + 1) M (by omega) hz
    by_cases hab : a = b
    · refine rs_iload ri_206_1079 rfl rfl ?_
      refine rs_iload_n ri_206_1081 rfl rfl ?_
      refine rs_icmp_ge (t := 1291) ri_206_1082 rfl rfl (fun q => absurd q (nI_ge (a := b) (b := np X) (by omega) (by omega))) (fun _ => ?_)
      refine rs_iload ri_206_1085 rfl rfl ?_
      refine rs_iload ri_206_1087 rfl rfl ?_
      refine rs_icmp_ne (t := 1095) ri_206_1089 rfl rfl (fun q => absurd (congrArg nI (by omega)) q) (fun _ => ?_)
      refine rs_goto (t := 1285) ri_206_1092 rfl ?_
      exact GO M hz
    · have hs := sc_lt (X := X) (i := 14 + a) (by omega)
      refine rs_iload ri_206_1079 rfl rfl ?_
      refine rs_iload_n ri_206_1081 rfl rfl ?_
      refine rs_icmp_ge (t := 1291) ri_206_1082 rfl rfl (fun q => absurd q (nI_ge (a := b) (b := np X) (by omega) (by omega))) (fun _ => ?_)
      refine rs_iload ri_206_1085 rfl rfl ?_
      refine rs_iload ri_206_1087 rfl rfl ?_
      refine rs_icmp_ne (t := 1095) ri_206_1089 rfl rfl (fun _ => ?_) (fun q => absurd q (fun q => absurd ((nI_eq (a := a) (b := b) (by omega) (by omega)).mp q) (by omega)))
      refine rs_bipush (v := nI 10) ri_206_1095 rfl (by decide) ?_
      refine rs_iload ri_206_1097 rfl rfl ?_
      refine rs_imul (r := nI (10 * a)) ri_206_1099 rfl (nI_mul 10 a) ?_
      refine rs_iload ri_206_1100 rfl rfl ?_
      refine rs_iadd (r := nI ((10 * a) + b)) ri_206_1102 rfl (nI_add (10 * a) b) ?_
      refine rs_istore (lv2 := [(22, .int (nI ((10 * a) + b))), (21, .int (nI b)), (20, .int (nI a)), (0, .ref 0), (1, .ref 4), (2, .int (nI (np X)))]) ri_206_1103 rfl rm_206.1 (by decide) rfl ?_
      refine rs_aload_n ri_206_1105 rfl rfl ?_
      refine rs_bipush (v := nI 14) ri_206_1106 rfl (by decide) ?_
      refine rs_iload ri_206_1108 rfl rfl ?_
      refine rs_iadd (r := nI (14 + a)) ri_206_1110 rfl (nI_add 14 a) ?_
      refine rs_stat (As := [.ref 0, .int (nI (14 + a))]) (r := []) ri_206_1111 rfl rm_193.2.2.2 rfl rfl rfl (Nat.le_of_ble_eq_true rfl) (hcs) (by omega) (lx_193 hX (by omega)) ?_
      rintro v M9 ⟨g1, g2⟩
      rw [g1, g2]
      show ro_w X _ 206 _ 1114 [(22, .int (nI ((10 * a) + b))), (21, .int (nI b)), (20, .int (nI a)), (0, .ref 0), (1, .ref 4), (2, .int (nI (np X)))] [.int (nI (sc X (14 + a)))] M cs
      refine rs_bipush (v := nI 6) ri_206_1114 rfl (by decide) ?_
      refine rs_irem (r := nI ((sc X (14 + a)) % 6)) ri_206_1116 rfl (by decide) (nI_rem (a := (sc X (14 + a))) (b := 6) (by omega) (by omega)) ?_
      refine rs_istore (lv2 := [(23, .int (nI ((sc X (14 + a)) % 6))), (22, .int (nI ((10 * a) + b))), (21, .int (nI b)), (20, .int (nI a)), (0, .ref 0), (1, .ref 4), (2, .int (nI (np X)))]) ri_206_1117 rfl rm_206.1 (by decide) rfl ?_
      refine rs_dconst (v := FP.dconst0) ri_206_1119 rfl rfl ?_
      refine rs_dstore (lv2 := [(24, .double (FP.dconst0)), (23, .int (nI ((sc X (14 + a)) % 6))), (22, .int (nI ((10 * a) + b))), (21, .int (nI b)), (20, .int (nI a)), (0, .ref 0), (1, .ref 4), (2, .int (nI (np X)))]) ri_206_1120 rfl rm_206.1 (by decide) rfl ?_
      refine rs_dconst (v := FP.dconst0) ri_206_1122 rfl rfl ?_
      refine rs_dstore (lv2 := [(26, .double (FP.dconst0)), (24, .double (FP.dconst0)), (23, .int (nI ((sc X (14 + a)) % 6))), (22, .int (nI ((10 * a) + b))), (21, .int (nI b)), (20, .int (nI a)), (0, .ref 0), (1, .ref 4), (2, .int (nI (np X)))]) ri_206_1123 rfl rm_206.1 (by decide) rfl ?_
      refine rs_iconst (v := nI 0) ri_206_1125 rfl (by decide) ?_
      refine rs_istore (lv2 := [(28, .int (nI 0)), (26, .double (FP.dconst0)), (24, .double (FP.dconst0)), (23, .int (nI ((sc X (14 + a)) % 6))), (22, .int (nI ((10 * a) + b))), (21, .int (nI b)), (20, .int (nI a)), (0, .ref 0), (1, .ref 4), (2, .int (nI (np X)))]) ri_206_1126 rfl rm_206.1 (by decide) rfl ?_
      refine lq_pay hcs hX ha (by omega) hab (by omega) (fun M x y hz hx => lq_1235 hcs ha (by omega) hab (by omega) hz hx GO) 9 0 M _ _ (by omega) hz ?_
      refine ⟨fp_0.1, fp_0.1, ?_, ?_, ?_, ?_⟩
      · rw [fp_0.2, Nat.zero_mul]; exact Nat.zero_le _
      · show 0 * fp_U ≤ _
        rw [Nat.zero_mul]; exact Nat.zero_le _
      · rw [fp_0.2, Nat.zero_mul]; exact Nat.zero_le _
      · show 0 * fp_U ≤ _
        rw [Nat.zero_mul]; exact Nat.zero_le _
theorem lq_1070 (hcs : cs.1 ≤ (ro_lim 206).1 ∧ cs.2 ≤ (ro_lim 206).2) (hX : X.1 ≤ 260) : ∀ e a M, a + e = np X → zo X L od S M → ro_w X 2000 206 lw_PP 1070 [(20, .int (nI a)), (0, .ref 0), (1, .ref 4), (2, .int (nI (np X)))] [] M cs := by
  have hnp := np_b (X := X)
  intro e
  induction e with
  | zero =>
    intro a M hae hz
    refine rs_iload ri_206_1070 rfl rfl ?_
    refine rs_iload_n ri_206_1072 rfl rfl ?_
    refine rs_icmp_ge (t := 1476) ri_206_1073 rfl rfl (fun _ => ?_) (fun q => absurd (nI_le (a := np X) (b := a) (by omega) (by omega)) q)
    refine ro_w_lv (lv := [(1, .ref 4), (2, .int (nI (np X)))]) (ro_sub_c rfl (ro_sub_c rfl (ro_sub_n rfl))) ?_
    exact lq_1476 hcs hz.1
  | succ e ih =>
    intro a M hae hz
    have ha : a < np X := by omega
    refine rs_iload ri_206_1070 rfl rfl ?_
    refine rs_iload_n ri_206_1072 rfl rfl ?_
    refine rs_icmp_ge (t := 1476) ri_206_1073 rfl rfl (fun q => absurd q (nI_ge (a := a) (b := np X) (by omega) (by omega))) (fun _ => ?_)
    refine rs_iconst (v := nI 0) ri_206_1076 rfl (by decide) ?_
    refine rs_istore (lv2 := [(21, .int (nI 0)), (20, .int (nI a)), (0, .ref 0), (1, .ref 4), (2, .int (nI (np X)))]) ri_206_1077 rfl rm_206.1 (by decide) rfl ?_
    refine lq_1079 hcs hX ha (fun M hz => ?_) (np X) 0 M (by omega) hz
    refine rs_dconst (v := FP.dconst0) ri_206_1291 rfl rfl ?_
    refine rs_dstore (lv2 := [(21, .double (FP.dconst0)), (20, .int (nI a)), (0, .ref 0), (1, .ref 4), (2, .int (nI (np X)))]) ri_206_1292 rfl rm_206.1 (by decide) rfl ?_
    refine rs_iconst (v := nI 0) ri_206_1294 rfl (by decide) ?_
    refine rs_istore (lv2 := [(23, .int (nI 0)), (21, .double (FP.dconst0)), (20, .int (nI a)), (0, .ref 0), (1, .ref 4), (2, .int (nI (np X)))]) ri_206_1295 rfl rm_206.1 (by decide) rfl ?_
    exact lq_test hcs ha (fun M x hz hx => lq_1402 hcs ha hz hx (fun M hz => ih (a + 1) M (by omega) hz)) 21 0 M _ (by omega) hz (Or.inl ⟨rfl, rfl⟩)
theorem lq_1067 (hcs : cs.1 ≤ (ro_lim 206).1 ∧ cs.2 ≤ (ro_lim 206).2) (hX : X.1 ≤ 260) {M : ro_Mm} (hz : zt X L M) : ro_w X 2000 206 lw_PP 1067 [(0, .ref 0), (1, .ref 4), (2, .int (nI (np X)))] [] M cs := by
  refine rs_iconst (v := nI 0) ri_206_1067 rfl (by decide) ?_
  refine rs_istore (lv2 := [(20, .int (nI 0)), (0, .ref 0), (1, .ref 4), (2, .int (nI (np X)))]) ri_206_1068 rfl rm_206.1 (by decide) rfl ?_
  exact lq_1070 (od := odv M L) (S := pu_now M) hcs hX (np X) 0 M (by omega) ⟨hz, rfl, rfl⟩
end PEOPLE
end LAWU
