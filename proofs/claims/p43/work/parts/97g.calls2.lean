/-! the class's calls, on: mend, feed, row, put, odds, offer, image, back -/
section CALLS2
variable {X : ro_Sx} {L : List (List Int32 × List Int32)} {M : ro_Mm}
/-- what mend writes: cell c0 at i, and its row of changes -/
def kS_m (c0 i : Nat) (c j : Nat) : Bool := (c == c0 && j == i) || (c == 54 || c == 55 || c == 56 || c == 57 || c == 58)
theorem ca_mend_x (hk : kv L M) {n w v : Int32} {c0 i : Nat} (h0 : c0 < 163) (hi : ro_lv c0 i = true) (hc : (c0 = 7 ∨ c0 = 8 ∨ c0 = 9 ∨ c0 = 10 ∨ c0 = 5)) (hq : xf_28 (kg L M) n w = true) (hq2 : xf_15 (kg L M) w v = true)
    (h33 : xm_33 (kg L M) n w v = ro_sI (kg L M) c0 i v) (h30 : xf_30 (kg L M) n w = M.2.1 c0 i) : ro_cwp X 3 27 [.ref 4, .int n, .int w, .int v] M (fun r M2 => r = some (.int (M.2.1 c0 i)) ∧ kv L M2 ∧ kw (kS_m c0 i) M M2 ∧ M2.2.1 c0 i = v) := by
  have hI := (kg_inv hk).1
  have f27 : xf_27 (kg L M) n w v = M.2.1 c0 i := by unfold xf_27; rw [if_pos hq, if_pos hq2, h30]
  have m27 : ∀ c j, c ≠ 54 → c ≠ 55 → c ≠ 56 → c ≠ 57 → c ≠ 58 → (xm_27 (kg L M) n w v).2.1 c j = (ro_sI (kg L M) c0 i v).2.1 c j := by
    intro c j n1 n2 n3 n4 n5
    unfold xm_27
    rw [if_pos hq, if_pos hq2]
    by_cases e : xf_30 (kg L M) n w = v
    · rw [if_pos e, ro_rd_s]
      by_cases z : c = c0 ∧ j = i
      · rw [if_pos z, z.1, z.2, ← e, h30, kg_c h0]
      · rw [if_neg z]
    · rw [if_neg e, xwI_34 n1 n2 n3 n4 n5, h33]
  have h := kc_w (S := kS_m c0 i) (A := some (.int (xf_27 (kg L M) n w v))) hk rfl rfl (xs_27 (X := X) (v1 := n) (v2 := w) (v3 := v) (kg_lay hk.1)) (fun c j h1 h2 h3 => by
      unfold kS_m at h3
      simp only [Bool.or_eq_false_iff, Bool.and_eq_false_iff, beq_eq_false_iff_ne] at h3
      obtain ⟨a, ⟨⟨⟨b, d⟩, e⟩, f⟩, g⟩ := h3
      rw [m27 c j b d e f g, ro_rd_s, if_neg (by omega)])
    (fun c j h1 h2 h3 => xwJ_27)
  refine ro_cwp_up (Nat.le_refl _) ?_ h
  rintro r M2 ⟨g1, g2, g3⟩
  refine ⟨by rw [g1, f27], kv_fin hk (pi_2 hI (v1 := n) (v2 := w) (v3 := v)) g2 ?_ (fun k => ?_) (fun c j hc => ?_), g2, ?_⟩
  · rcases hc with e | e | e | e | e <;> rw [e] <;> rfl
  · rcases hc with e | e | e | e | e <;> rw [e] <;> rfl
  · rw [(g3 c hc).1]
    exact (xwI_202 (by omega) (by omega) (by omega) (by omega) (by omega) (by omega) (by omega) (by omega) (by omega) (by omega)).symm
  · rw [(g3 c0 h0).1, m27 c0 i (by omega) (by omega) (by omega) (by omega) (by omega), ro_sI_eq]
theorem nI_rng {v m : Nat} (hv : v ≤ m) (hm : m < 2 ^ 31) : (0 : Int32) ≤ nI v ∧ nI v ≤ nI m := ⟨nI_le (a := 0) (by omega) (by omega), nI_le hv hm⟩
theorem ca_mend1 (hk : kv L M) {p i v : Nat} (hp : p ≤ 6) (e1 : M.2.1 5 4 = nI p) (hi : i < p) (hv : v ≤ 20) : ro_cwp X 3 27 [.ref 4, .int (nI i), .int 1, .int (nI v)] M (fun r M2 => r = some (.int (M.2.1 8 i)) ∧ kv L M2 ∧ kw (kS_m 8 i) M M2 ∧ M2.2.1 8 i = nI v) := by
  have e0 : (kg L M).2.1 5 4 = nI p := (kg_c (by decide)).trans e1
  obtain ⟨n1, n2, n3, n4⟩ := ro_n6 (k := i) (by omega)
  refine ca_mend_x hk (by decide) rfl (by decide) (x28_t hp e0 hi (by decide)) (ro_w15_1.mpr (nI_rng (m := 20) hv (by decide))) ?_ ((x30_1 (by omega)).trans (kg_c (by decide)))
  rw [x33_1 ⟨Int32.not_lt.mp n1, Int32.not_le.mp n2⟩, n3]
theorem ca_mend2 (hk : kv L M) {p i v : Nat} (hp : p ≤ 6) (e1 : M.2.1 5 4 = nI p) (hi : i < p) (hv : v ≤ 12) : ro_cwp X 3 27 [.ref 4, .int (nI i), .int 2, .int (nI v)] M (fun r M2 => r = some (.int (M.2.1 9 i)) ∧ kv L M2 ∧ kw (kS_m 9 i) M M2 ∧ M2.2.1 9 i = nI v) := by
  have e0 : (kg L M).2.1 5 4 = nI p := (kg_c (by decide)).trans e1
  obtain ⟨n1, n2, n3, n4⟩ := ro_n6 (k := i) (by omega)
  refine ca_mend_x hk (by decide) rfl (by decide) (x28_t hp e0 hi (by decide)) (ro_w15_2.mpr (nI_rng (m := 12) hv (by decide))) ?_ ((x30_2 (by omega)).trans (kg_c (by decide)))
  rw [x33_2 ⟨Int32.not_lt.mp n1, Int32.not_le.mp n2⟩, n3]
theorem ca_mend3 (hk : kv L M) {p i v : Nat} (hp : p ≤ 6) (e1 : M.2.1 5 4 = nI p) (hi : i < p) (hv : v ≤ 20) : ro_cwp X 3 27 [.ref 4, .int (nI i), .int 3, .int (nI v)] M (fun r M2 => r = some (.int (M.2.1 10 i)) ∧ kv L M2 ∧ kw (kS_m 10 i) M M2 ∧ M2.2.1 10 i = nI v) := by
  have e0 : (kg L M).2.1 5 4 = nI p := (kg_c (by decide)).trans e1
  obtain ⟨n1, n2, n3, n4⟩ := ro_n6 (k := i) (by omega)
  refine ca_mend_x hk (by decide) rfl (by decide) (x28_t hp e0 hi (by decide)) (ro_w15_3.mpr (nI_rng (m := 20) hv (by decide))) ?_ ((x30_3 (by omega)).trans (kg_c (by decide)))
  rw [x33_3 ⟨Int32.not_lt.mp n1, Int32.not_le.mp n2⟩, n3]
theorem ca_mend4 (hk : kv L M) {v : Nat} (hv : v ≤ 4) : ro_cwp X 3 27 [.ref 4, .int 0, .int 4, .int (nI v)] M (fun r M2 => r = some (.int (M.2.1 5 5)) ∧ kv L M2 ∧ kw (kS_m 5 5) M M2 ∧ M2.2.1 5 5 = nI v) :=
  ca_mend_x hk (by decide) rfl (by decide) (x28_4 (by decide)) (ro_w15_4.mpr (nI_rng (m := 4) hv (by decide))) x33_4 (x30_4.trans (kg_c (by decide)))
theorem ca_mend5 (hk : kv L M) {v : Nat} (hv : v ≤ 11) : ro_cwp X 3 27 [.ref 4, .int 0, .int 5, .int (nI v)] M (fun r M2 => r = some (.int (M.2.1 5 6)) ∧ kv L M2 ∧ kw (kS_m 5 6) M M2 ∧ M2.2.1 5 6 = nI v) :=
  ca_mend_x hk (by decide) rfl (by decide) (x28_4 (by decide)) (ro_w15_5.mpr (nI_rng (m := 11) hv (by decide))) x33_5 (x30_5.trans (kg_c (by decide)))
theorem ca_mend6 (hk : kv L M) {v : Nat} (hv : v ≤ 12) : ro_cwp X 3 27 [.ref 4, .int 0, .int 6, .int (nI v)] M (fun r M2 => r = some (.int (M.2.1 5 7)) ∧ kv L M2 ∧ kw (kS_m 5 7) M M2 ∧ M2.2.1 5 7 = nI v) :=
  ca_mend_x hk (by decide) rfl (by decide) (x28_4 (by decide)) (ro_w15_6.mpr (nI_rng (m := 12) hv (by decide))) x33_6 (x30_6.trans (kg_c (by decide)))
def kS_f (k : Nat) (c j : Nat) : Bool := (c == 17 && j == k) || (c == 16 && j == 5)
theorem ca_feed (hk : kv L M) {k v : Nat} (hk2 : k < 120) (e1 : M.2.1 16 5 = nI k) (hv : v ≤ 255) : ro_cwp X 2 40 [.ref 4, .int (nI v)] M (fun r M2 => r = some (.int (nI (k + 1))) ∧ kv L M2 ∧ kw (kS_f k) M M2 ∧ M2.2.1 16 5 = nI (k + 1) ∧ M2.2.1 17 k = nI v) := by
  have hI := (kg_inv hk).1
  have e0 : (kg L M).2.1 16 5 = nI k := (kg_c (by decide)).trans e1
  have w13 : xf_13 (kg L M) (nI v) 0 255 = true := ro_w13.mpr (nI_rng (m := 255) hv (by decide))
  have c0 : ¬ nI k < 0 := nI_pos (by omega)
  have c1 : nI k < 120 := nI_lt (b := 120) hk2 (by omega)
  have ek : (nI k).toNatClampNeg = k := nI_clamp (by omega)
  have m40 : xm_40 (kg L M) (nI v) = ro_sI (ro_sI (kg L M) 17 k (nI v)) 16 5 (nI (k + 1)) := by
    unfold xm_40 xm_41
    rw [if_pos w13, e0, if_neg c0, if_pos c1, ek, nI_succ]
  have f40 : xf_40 (kg L M) (nI v) = nI (k + 1) := by
    unfold xf_40 xf_41 xf_42
    have m41 : xm_41 (kg L M) (nI v) = ro_sI (ro_sI (kg L M) 17 k (nI v)) 16 5 (nI (k + 1)) := by
      unfold xm_41
      rw [e0, if_neg c0, if_pos c1, ek, nI_succ]
    rw [if_pos w13, m41, e0, if_neg c0, if_pos c1, if_pos rfl, ro_sI_eq]
  have h := kc_w (S := kS_f k) (A := some (.int (xf_40 (kg L M) (nI v)))) hk rfl rfl (xs_40 (X := X) (v1 := nI v) (kg_lay hk.1)) (fun c j h1 h2 h3 => by
      unfold kS_f at h3
      simp only [Bool.or_eq_false_iff, Bool.and_eq_false_iff, beq_eq_false_iff_ne] at h3
      rw [m40, ro_rd_s, if_neg (by omega), ro_rd_s, if_neg (by omega)])
    (fun c j h1 h2 h3 => xwJ_40)
  refine ro_cwp_up (Nat.le_refl _) ?_ h
  rintro r M2 ⟨g1, g2, g3⟩
  refine ⟨by rw [g1, f40], kv_fin hk (pi_4 hI (v1 := nI v)) g2 rfl (fun k => rfl) (fun c j hc => ?_), g2, ?_, ?_⟩
  · rw [(g3 c hc).1]
    exact (xwI_210 (by omega) (by omega)).symm
  · rw [(g3 _ (by decide)).1, m40, ro_sI_eq]
  · rw [(g3 _ (by decide)).1, m40, ro_sI_ne (by decide), ro_sI_eq]
/-- a row of bytes on a shelf -/
def sh_b (M : ro_Mm) (s z : Nat) (f : Nat → Nat) : Prop := M.2.1 (23 + 2 * s) 1 = 0 ∧ M.2.1 (23 + 2 * s) 2 = nI z ∧ ∀ i, i < z → (M.2.2.1 (24 + 2 * s) i).toInt32 = nI (f i)
def kS_r (s : Nat) (c _j : Nat) : Bool := c == 23 + 2 * s || c == 24 + 2 * s
theorem ro_sn {s : Nat} (hs : s < 6) : ro_bs (nI s) = true ∧ ro_sc (nI s) = 23 + 2 * s ∧ (nI s).toNatClampNeg = s := by
  have e : (nI s).toNatClampNeg = s := nI_clamp (by omega)
  refine ⟨?_, ?_, e⟩
  · unfold ro_bs
    rw [decide_eq_true (show (0 : Int32) ≤ nI s from nI_le (a := 0) (by omega) (by omega)), decide_eq_true (show nI s < 6 from nI_lt (b := 6) hs (by omega))]; rfl
  · unfold ro_sc
    rw [e, Nat.min_eq_left (by omega)]
theorem kS_sh {s : Nat} (hs : s < 6) : kS_r s 16 8 = false ∧ ∀ k, kS_r s 19 k = false := by
  refine ⟨?_, fun k => ?_⟩ <;> unfold kS_r <;> simp only [Bool.or_eq_false_iff, beq_eq_false_iff_ne] <;> omega
theorem ca_row (hk : kv L M) {s z : Nat} (hs : s < 6) (hz : z ≤ 60) : ro_cwp X 2 177 [.ref 4, .int (nI s), .int 0, .int (nI z)] M (fun r M2 => r = some (.int 1) ∧ kv L M2 ∧ kw (kS_r s) M M2 ∧ sh_b M2 s z (fun _ => 0)) := by
  have hI := (kg_inv hk).1
  obtain ⟨s1, s2, s3⟩ := ro_sn hs
  have w13 : xf_13 (kg L M) 0 0 4 = true := ro_w13.mpr (by decide)
  have z60 : nI z ≤ 60 := nI_le (b := 60) hz (by omega)
  have z0 : (0 : Int32) ≤ nI z := nI_le (a := 0) (by omega) (by omega)
  have f177 : xf_177 (kg L M) (nI s) 0 (nI z) = 1 := by
    unfold xf_177
    rw [if_pos s1, if_pos w13, if_pos z60, if_pos z0]
  have m177 : xm_177 (kg L M) (nI s) 0 (nI z) = rw_A (kg L M) (23 + 2 * s) 0 (nI z) z := by
    unfold xm_177
    rw [if_pos s1, if_pos w13, if_pos z60, if_pos z0, s2]
    exact (x178 hz).1
  have h := kc_w (S := kS_r s) (A := some (.int (xf_177 (kg L M) (nI s) 0 (nI z)))) hk rfl rfl (xs_177 (X := X) (v1 := nI s) (v2 := 0) (v3 := nI z) (kg_lay hk.1) (pc_34 hI)) (fun c j h1 h2 h3 => by
      unfold kS_r at h3
      simp only [Bool.or_eq_false_iff, beq_eq_false_iff_ne] at h3
      exact xwI_177 (by rw [s2]; exact h3.1))
    (fun c j h1 h2 h3 => by
      unfold kS_r at h3
      simp only [Bool.or_eq_false_iff, beq_eq_false_iff_ne] at h3
      exact xwJ_177 (by rw [s2]; omega))
  refine ro_cwp_up (Nat.le_refl _) ?_ h
  rintro r M2 ⟨g1, g2, g3⟩
  refine ⟨by rw [g1, f177], kv_fin hk (pi_34 hI (v1 := nI s) (v2 := 0) (v3 := nI z)) g2 (kS_sh hs).1 (kS_sh hs).2 (fun c j hc => ?_), g2, ?_, ?_, fun i hi => ?_⟩
  · rw [(g3 c hc).1]
    exact (xwI_301 (by omega) (by omega)).symm
  · rw [(g3 _ (by omega)).1, m177]
    show (ro_sI (ro_sI (kg L M) (23 + 2 * s) 1 0) (23 + 2 * s) 2 (nI z)).2.1 (23 + 2 * s) 1 = 0
    rw [ro_sI_nj (by decide), ro_sI_eq]
  · rw [(g3 _ (by omega)).1, m177]
    show (ro_sI (ro_sI (kg L M) (23 + 2 * s) 1 0) (23 + 2 * s) 2 (nI z)).2.1 (23 + 2 * s) 2 = nI z
    rw [ro_sI_eq]
  · rw [(g3 _ (by omega)).2, m177]
    show (ro_z (kg L M).2.2.1 (23 + 2 * s + 1) 0 z (24 + 2 * s) i).toInt32 = nI 0
    unfold ro_z
    rw [if_pos ⟨by omega, Nat.zero_le _, hi⟩]
    rfl
theorem by_128 {x : Nat} (h : x < 128) : (((((nI x).toInt64).toInt32).toInt8.toInt32).toInt64).toInt32 = nI x := (show ∀ x, x < 128 → (((((nI x).toInt64).toInt32).toInt8.toInt32).toInt64).toInt32 = nI x by decide +kernel) x h
def kS_u (s i : Nat) (c j : Nat) : Bool := c == 24 + 2 * s && j == i
theorem ca_put (hk : kv L M) {s z i x : Nat} {f : Nat → Nat} (hs : s < 6) (hz : z ≤ 60) (hb : sh_b M s z f) (hi : i < z) (hx : x < 128) : ro_cwp X 3 179 [.ref 4, .int (nI s), .int (nI i), .long (nI x).toInt64] M (fun r M2 => r = some (.int 1) ∧ kv L M2 ∧ kw (kS_r s) M M2 ∧ sh_b M2 s z (fun k => if k = i then x else f k)) := by
  have hI := (kg_inv hk).1
  obtain ⟨s1, s2, s3⟩ := ro_sn hs
  obtain ⟨b1, b2, b3⟩ := hb
  have c1 : (kg L M).2.1 (23 + 2 * s) 1 = 0 := (kg_c (by omega)).trans b1
  have c2 : (kg L M).2.1 (23 + 2 * s) 2 = nI z := (kg_c (by omega)).trans b2
  have i0 : ¬ nI i < 0 := nI_pos (by omega)
  have iz : ¬ nI z ≤ nI i := nI_ge hi (by omega)
  have i60 : nI i < 60 := nI_lt (b := 60) (by omega) (by omega)
  have ei : (nI i).toNatClampNeg = i := nI_clamp (by omega)
  have f180 : xf_180 (kg L M) (23 + 2 * s) = true := by unfold xf_180; rw [c1, if_neg (by decide)]
  have f179 : xf_179 (kg L M) (nI s) (nI i) (nI x).toInt64 = 1 := by
    unfold xf_179 xf_181
    rw [if_pos s1, s2, if_pos f180, if_neg i0, c2, if_neg iz, if_pos i60, if_pos rfl]
  have m179 : xm_179 (kg L M) (nI s) (nI i) (nI x).toInt64 = ro_sJ (kg L M) (23 + 2 * s + 1) i ((((nI x).toInt64.toInt32).toInt8.toInt32).toInt64) := by
    unfold xm_179 xm_181 xf_182
    rw [if_pos s1, s2, if_pos f180, if_neg i0, c2, if_neg iz, if_pos i60, ei, c1, if_pos rfl]
  have h := kc_w (S := kS_r s) (A := some (.int (xf_179 (kg L M) (nI s) (nI i) (nI x).toInt64))) hk rfl rfl (xs_179 (X := X) (v1 := nI s) (v2 := nI i) (v3 := (nI x).toInt64) (kg_lay hk.1)) (fun c j h1 h2 h3 => xwI_179)
    (fun c j h1 h2 h3 => by
      unfold kS_r at h3
      simp only [Bool.or_eq_false_iff, beq_eq_false_iff_ne] at h3
      exact xwJ_179 (by rw [s2]; omega))
  refine ro_cwp_up (Nat.le_refl _) ?_ h
  rintro r M2 ⟨g1, g2, g3⟩
  refine ⟨by rw [g1, f179], kv_fin hk (pi_35 hI (v1 := nI s) (v2 := nI i) (v3 := (nI x).toInt64)) g2 (kS_sh hs).1 (kS_sh hs).2 (fun c j hc => ?_), g2, ?_, ?_, fun k hk2 => ?_⟩
  · rw [(g3 c hc).1]
    exact xwI_302.symm
  · rw [(g3 _ (by omega)).1, m179]; exact c1
  · rw [(g3 _ (by omega)).1, m179]; exact c2
  · rw [(g3 _ (by omega)).2, m179]
    show (if 24 + 2 * s = 23 + 2 * s + 1 ∧ k = i then ((((nI x).toInt64.toInt32).toInt8.toInt32).toInt64) else (kg L M).2.2.1 (24 + 2 * s) k).toInt32 = nI (if k = i then x else f k)
    by_cases e : k = i
    · rw [if_pos ⟨by omega, e⟩, if_pos e]; exact by_128 hx
    · rw [if_neg (fun q => e q.2), if_neg e, kg_J (by omega)]; exact b3 k hk2
end CALLS2
