/-! the object new; built (196) -/
theorem kv_1 : kv [] ro_M1 := by
  refine ⟨⟨?_, ro_lay1.2, ?_⟩, ?_, ?_, ?_, ?_, ⟨?_, ?_, ?_, ?_, ?_⟩, ?_, ?_, ?_⟩
  · rw [ro_lay1.1]; decide +kernel
  · have h : ∀ (v : Value) (n : Nat), (match v with | .ref k => k == n | _ => false) = true → v = .ref n := by
      intro v n h
      split at h
      · rw [beq_iff_eq.mp h]
      · cases h
    exact Or.inl ⟨h _ 153 (by decide +kernel), h _ 158 (by decide +kernel)⟩
  · unfold kv_a; decide +kernel
  · unfold kv_b; decide +kernel
  · unfold kv_d; decide +kernel
  · unfold kv_e; decide +kernel
  · intro q hq
    cases hq
  · decide
  · decide +kernel
  · exact fun k hk => absurd hk (Nat.not_lt_zero _)
  · decide
  · unfold kv_g; decide +kernel
  · unfold kv_h; decide +kernel
  · have e : ∀ s, s < 6 → ro_M1.2.1 (23 + 2 * s) 1 = -2 := by decide +kernel
    exact fun s hs => Or.inl (e s hs)
section LAWR
variable {X : ro_Sx}
/-- k people are there, nothing else was told -/
def bu (X : ro_Sx) (M : ro_Mm) (k : Nat) : Prop := M.2.1 5 4 = nI k ∧ (∀ i, i < k → M.2.1 7 i = nI (on0 X i) ∧ M.2.1 8 i = nI (on1 X i) ∧ M.2.1 9 i = nI (on2 X i) ∧ M.2.1 10 i = nI (on3 X i)) ∧ M.2.1 16 5 = 0 ∧ (∀ j, j < 4 → M.2.1 11 j = 0) ∧ M.1.length = 159
def bn (M : ro_Mm) (a b c : Nat) : Prop := M.2.1 5 5 = nI a ∧ M.2.1 5 6 = nI b ∧ M.2.1 5 7 = nI c
theorem bu_1 : bu X ro_M1 0 ∧ bn ro_M1 3 0 6 := ⟨⟨by decide +kernel, fun i hi => absurd hi (Nat.not_lt_zero _), by decide +kernel, fun j hj => (show ∀ j, j < 4 → ro_M1.2.1 11 j = 0 by decide +kernel) j hj, by rw [ro_lay1.1]; decide +kernel⟩, by decide +kernel, by decide +kernel, by decide +kernel⟩
theorem kS_m0 {c0 i c j : Nat} (h : ¬ (c = c0 ∧ j = i)) (h2 : c ≠ 54 ∧ c ≠ 55 ∧ c ≠ 56 ∧ c ≠ 57 ∧ c ≠ 58) : kS_m c0 i c j = false := by
  unfold kS_m
  simp only [Bool.or_eq_false_iff, Bool.and_eq_false_iff, beq_eq_false_iff_ne]
  omega
theorem kS_p0 {p c j : Nat} (h : ¬ (c = 5 ∧ j = 4)) (h2 : ¬ ((c = 7 ∨ c = 8 ∨ c = 9 ∨ c = 10) ∧ j = p)) : kS_p p c j = false := by
  unfold kS_p
  simp only [Bool.or_eq_false_iff, Bool.and_eq_false_iff, beq_eq_false_iff_ne]
  omega
/-- one more person, told -/
theorem bu_s {M M1 M2 M3 M4 : ro_Mm} {k a b c : Nat} (h : bu X M k) (hn : bn M a b c) (w1 : kw (kS_p k) M M1) (w2 : kw (kS_m 8 k) M1 M2) (w3 : kw (kS_m 9 k) M2 M3) (w4 : kw (kS_m 10 k) M3 M4) (e4 : M1.2.1 5 4 = nI (k + 1)) (e7 : M1.2.1 7 k = nI (on0 X k)) (e8 : M2.2.1 8 k = nI (on1 X k)) (e9 : M3.2.1 9 k = nI (on2 X k)) (e10 : M4.2.1 10 k = nI (on3 X k)) : bu X M4 (k + 1) ∧ bn M4 a b c := by
  have r4 : ∀ c j, c < 163 → ro_lv c j = true → ¬ (c = 10 ∧ j = k) → (c ≠ 54 ∧ c ≠ 55 ∧ c ≠ 56 ∧ c ≠ 57 ∧ c ≠ 58) → M4.2.1 c j = M3.2.1 c j := fun c j a b e f => w4.2.1 c j a b (kS_m0 e f)
  have r3 : ∀ c j, c < 163 → ro_lv c j = true → ¬ (c = 9 ∧ j = k) → (c ≠ 54 ∧ c ≠ 55 ∧ c ≠ 56 ∧ c ≠ 57 ∧ c ≠ 58) → M3.2.1 c j = M2.2.1 c j := fun c j a b e f => w3.2.1 c j a b (kS_m0 e f)
  have r2 : ∀ c j, c < 163 → ro_lv c j = true → ¬ (c = 8 ∧ j = k) → (c ≠ 54 ∧ c ≠ 55 ∧ c ≠ 56 ∧ c ≠ 57 ∧ c ≠ 58) → M2.2.1 c j = M1.2.1 c j := fun c j a b e f => w2.2.1 c j a b (kS_m0 e f)
  have r1 : ∀ c j, c < 163 → ro_lv c j = true → ¬ (c = 5 ∧ j = 4) → ¬ ((c = 7 ∨ c = 8 ∨ c = 9 ∨ c = 10) ∧ j = k) → M1.2.1 c j = M.2.1 c j := fun c j a b e f => w1.2.1 c j a b (kS_p0 e f)
  obtain ⟨h1, h2, h3, h4, h5⟩ := h
  obtain ⟨n1, n2, n3⟩ := hn
  have all : ∀ c j, c < 163 → ro_lv c j = true → ¬ (c = 5 ∧ j = 4) → ¬ ((c = 7 ∨ c = 8 ∨ c = 9 ∨ c = 10) ∧ j = k) → (c ≠ 54 ∧ c ≠ 55 ∧ c ≠ 56 ∧ c ≠ 57 ∧ c ≠ 58) → M4.2.1 c j = M.2.1 c j := fun c j a b e f g => by
    rw [r4 c j a b (by omega) g, r3 c j a b (by omega) g, r2 c j a b (by omega) g, r1 c j a b e f]
  have up : ∀ c, (c = 7 ∨ c = 8 ∨ c = 9 ∨ c = 10) → ∀ j, ro_lv c j = true := fun c hc j => by
    rcases hc with e | e | e | e <;> rw [e] <;> rfl
  refine ⟨⟨?_, fun i hi => ?_, ?_, fun j hj => ?_, ?_⟩, ?_, ?_, ?_⟩
  · rw [r4 5 4 (by decide) rfl (by omega) (by omega), r3 5 4 (by decide) rfl (by omega) (by omega), r2 5 4 (by decide) rfl (by omega) (by omega)]; exact e4
  · by_cases q : i = k
    · subst q
      refine ⟨?_, ?_, ?_, e10⟩
      · rw [r4 7 i (by decide) rfl (by omega) (by omega), r3 7 i (by decide) rfl (by omega) (by omega), r2 7 i (by decide) rfl (by omega) (by omega)]; exact e7
      · rw [r4 8 i (by decide) rfl (by omega) (by omega), r3 8 i (by decide) rfl (by omega) (by omega)]; exact e8
      · rw [r4 9 i (by decide) rfl (by omega) (by omega)]; exact e9
    · obtain ⟨g1, g2, g3, g4⟩ := h2 i (by omega)
      rw [all 7 i (by decide) rfl (by omega) (by omega) (by omega), all 8 i (by decide) rfl (by omega) (by omega) (by omega), all 9 i (by decide) rfl (by omega) (by omega) (by omega), all 10 i (by decide) rfl (by omega) (by omega) (by omega)]
      exact ⟨g1, g2, g3, g4⟩
  · rw [all 16 5 (by decide) rfl (by omega) (by omega) (by omega)]; exact h3
  · rw [all 11 j (by decide) rfl (by omega) (by omega) (by omega)]; exact h4 j hj
  · rw [w4.1, w3.1, w2.1, w1.1]; exact h5
  · rw [all 5 5 (by decide) rfl (by omega) (by omega) (by omega)]; exact n1
  · rw [all 5 6 (by decide) rfl (by omega) (by omega) (by omega)]; exact n2
  · rw [all 5 7 (by decide) rfl (by omega) (by omega) (by omega)]; exact n3
/-- a number of all told -/
theorem bu_m {M M2 : ro_Mm} {k j0 : Nat} (hj : j0 = 5 ∨ j0 = 6 ∨ j0 = 7) (h : bu X M k) (w : kw (kS_m 5 j0) M M2) : bu X M2 k ∧ ∀ j, j ≠ j0 → M2.2.1 5 j = M.2.1 5 j := by
  have all : ∀ c j, c < 163 → ro_lv c j = true → ¬ (c = 5 ∧ j = j0) → (c ≠ 54 ∧ c ≠ 55 ∧ c ≠ 56 ∧ c ≠ 57 ∧ c ≠ 58) → M2.2.1 c j = M.2.1 c j := fun c j a b e f => w.2.1 c j a b (kS_m0 e f)
  obtain ⟨h1, h2, h3, h4, h5⟩ := h
  refine ⟨⟨?_, fun i hi => ?_, ?_, fun j hj => ?_, ?_⟩, fun j hj2 => all 5 j (by decide) rfl (by omega) (by omega)⟩
  · rw [all 5 4 (by decide) rfl (by omega) (by omega)]; exact h1
  · rw [all 7 i (by decide) rfl (by omega) (by omega), all 8 i (by decide) rfl (by omega) (by omega), all 9 i (by decide) rfl (by omega) (by omega), all 10 i (by decide) rfl (by omega) (by omega)]; exact h2 i hi
  · rw [all 16 5 (by decide) rfl (by omega) (by omega)]; exact h3
  · rw [all 11 j (by decide) rfl (by omega) (by omega)]; exact h4 j hj
  · rw [w.1]; exact h5
/-- what holds behind it -/
def bz (X : ro_Sx) (M : ro_Mm) : Prop := M.2.1 5 4 = nI (np X) ∧ (∀ i, i < np X → M.2.1 7 i = nI (on0 X i) ∧ M.2.1 8 i = nI (on1 X i) ∧ M.2.1 9 i = nI (on2 X i) ∧ M.2.1 10 i = nI (on3 X i)) ∧ (∀ j, j < 4 → M.2.1 11 j = 0) ∧ bn M (to0 X) (to1 X) (to2 X)
def tbN (j : Nat) : Nat := [112, 45, 98, 47, 50, 43, 119, 47, 52, 45, 99, 47, 51, 43, 104, 37, 51, 43, 110].getD j 0
theorem tbN_b : ∀ i, i < 19 → nI (tbN i) = tb i ∧ tbN i < 256 := by decide +kernel
theorem lp_196c (hX : X.1 ≤ 260) {M : ro_Mm} (hk : kv [] M) (hb : bu X M (np X)) (hn : bn M (to0 X) (to1 X) (to2 X)) : ro_w X 450 196 (fun v M2 => v = some (.int (ro_b true)) ∧ ∃ L, kv L M2 ∧ bz X M2) 114 [(0, .ref 4), (1, .ref 0)] [] M (0, 0) := by
  by_cases h : hl X = true
  · refine rs_aload_n ri_196_114 rfl rfl ?_
    refine rs_stat (As := [.ref 0]) (r := []) ri_196_115 rfl rm_198.2.2.2 rfl rfl rfl (Nat.le_of_ble_eq_true rfl) (⟨by decide, by decide⟩) (by omega) (lx_198 hX) ?_
    rintro v M2 ⟨e1, e2⟩
    rw [e1, e2]
    show ro_w X _ 196 _ 118 [(0, .ref 4), (1, .ref 0)] [.int (ro_b ((hl X)))] M (0, 0)
    refine rs_ifne_b (t := 123) ri_196_118 rfl rfl (fun _ => ?_) (fun q => absurd (q.symm.trans (h)) (by decide))
    refine rs_bipush (v := nI 19) ri_196_123 rfl (by decide) ?_
    refine rs_newa (c := 163) (k := 16) (n := 19) (c1 := 1) (c2 := 19) ri_196_125 rfl rfl (by decide) (by decide) (by decide) rfl (by decide) (by rw [hb.2.2.2.2]) rfl rfl (by decide) (by decide) ?_
    have n0 : nw M (ro_new M (16, 19)) 163 := by have := nw_new (M := M) (s := (16, 19)); rw [hb.2.2.2.2] at this; exact this
    have a0 : lr_a (ro_new M (16, 19)) 163 19 (fun _ => 0) := by have := lr_new (M := M) (n := 19); rw [hb.2.2.2.2] at this; exact this
    generalize ro_new M (16, 19) = N0 at n0 a0 ⊢
    refine rs_dup ri_196_127 rfl rfl ?_
    refine rs_iconst (v := nI 0) ri_196_128 rfl (by decide) ?_
    refine rs_bipush (v := nI 112) ri_196_129 rfl (by decide) ?_
    refine rs_iast (j := 0) ri_196_131 rfl (by decide) a0.1 (ro_vn (k := 0) (by decide) (by decide)) (by decide) ?_
    have n1 := nw_s (i := 0) (x := nI 112) n0
    have a1 := lr_s (i := 0) (x := 112) a0
    generalize ro_sI N0 163 0 (nI 112) = N1 at n1 a1 ⊢
    refine rs_dup ri_196_132 rfl rfl ?_
    refine rs_iconst (v := nI 1) ri_196_133 rfl (by decide) ?_
    refine rs_bipush (v := nI 45) ri_196_134 rfl (by decide) ?_
    refine rs_iast (j := 1) ri_196_136 rfl (by decide) a1.1 (ro_vn (k := 1) (by decide) (by decide)) (by decide) ?_
    have n2 := nw_s (i := 1) (x := nI 45) n1
    have a2 := lr_s (i := 1) (x := 45) a1
    generalize ro_sI N1 163 1 (nI 45) = N2 at n2 a2 ⊢
    refine rs_dup ri_196_137 rfl rfl ?_
    refine rs_iconst (v := nI 2) ri_196_138 rfl (by decide) ?_
    refine rs_bipush (v := nI 98) ri_196_139 rfl (by decide) ?_
    refine rs_iast (j := 2) ri_196_141 rfl (by decide) a2.1 (ro_vn (k := 2) (by decide) (by decide)) (by decide) ?_
    have n3 := nw_s (i := 2) (x := nI 98) n2
    have a3 := lr_s (i := 2) (x := 98) a2
    generalize ro_sI N2 163 2 (nI 98) = N3 at n3 a3 ⊢
    refine rs_dup ri_196_142 rfl rfl ?_
    refine rs_iconst (v := nI 3) ri_196_143 rfl (by decide) ?_
    refine rs_bipush (v := nI 47) ri_196_144 rfl (by decide) ?_
    refine rs_iast (j := 3) ri_196_146 rfl (by decide) a3.1 (ro_vn (k := 3) (by decide) (by decide)) (by decide) ?_
    have n4 := nw_s (i := 3) (x := nI 47) n3
    have a4 := lr_s (i := 3) (x := 47) a3
    generalize ro_sI N3 163 3 (nI 47) = N4 at n4 a4 ⊢
    refine rs_dup ri_196_147 rfl rfl ?_
    refine rs_iconst (v := nI 4) ri_196_148 rfl (by decide) ?_
    refine rs_bipush (v := nI 50) ri_196_149 rfl (by decide) ?_
    refine rs_iast (j := 4) ri_196_151 rfl (by decide) a4.1 (ro_vn (k := 4) (by decide) (by decide)) (by decide) ?_
    have n5 := nw_s (i := 4) (x := nI 50) n4
    have a5 := lr_s (i := 4) (x := 50) a4
    generalize ro_sI N4 163 4 (nI 50) = N5 at n5 a5 ⊢
    refine rs_dup ri_196_152 rfl rfl ?_
    refine rs_iconst (v := nI 5) ri_196_153 rfl (by decide) ?_
    refine rs_bipush (v := nI 43) ri_196_154 rfl (by decide) ?_
    refine rs_iast (j := 5) ri_196_156 rfl (by decide) a5.1 (ro_vn (k := 5) (by decide) (by decide)) (by decide) ?_
    have n6 := nw_s (i := 5) (x := nI 43) n5
    have a6 := lr_s (i := 5) (x := 43) a5
    generalize ro_sI N5 163 5 (nI 43) = N6 at n6 a6 ⊢
    refine rs_dup ri_196_157 rfl rfl ?_
    refine rs_bipush (v := nI 6) ri_196_158 rfl (by decide) ?_
    refine rs_bipush (v := nI 119) ri_196_160 rfl (by decide) ?_
    refine rs_iast (j := 6) ri_196_162 rfl (by decide) a6.1 (ro_vn (k := 6) (by decide) (by decide)) (by decide) ?_
    have n7 := nw_s (i := 6) (x := nI 119) n6
    have a7 := lr_s (i := 6) (x := 119) a6
    generalize ro_sI N6 163 6 (nI 119) = N7 at n7 a7 ⊢
    refine rs_dup ri_196_163 rfl rfl ?_
    refine rs_bipush (v := nI 7) ri_196_164 rfl (by decide) ?_
    refine rs_bipush (v := nI 47) ri_196_166 rfl (by decide) ?_
    refine rs_iast (j := 7) ri_196_168 rfl (by decide) a7.1 (ro_vn (k := 7) (by decide) (by decide)) (by decide) ?_
    have n8 := nw_s (i := 7) (x := nI 47) n7
    have a8 := lr_s (i := 7) (x := 47) a7
    generalize ro_sI N7 163 7 (nI 47) = N8 at n8 a8 ⊢
    refine rs_dup ri_196_169 rfl rfl ?_
    refine rs_bipush (v := nI 8) ri_196_170 rfl (by decide) ?_
    refine rs_bipush (v := nI 52) ri_196_172 rfl (by decide) ?_
    refine rs_iast (j := 8) ri_196_174 rfl (by decide) a8.1 (ro_vn (k := 8) (by decide) (by decide)) (by decide) ?_
    have n9 := nw_s (i := 8) (x := nI 52) n8
    have a9 := lr_s (i := 8) (x := 52) a8
    generalize ro_sI N8 163 8 (nI 52) = N9 at n9 a9 ⊢
    refine rs_dup ri_196_175 rfl rfl ?_
    refine rs_bipush (v := nI 9) ri_196_176 rfl (by decide) ?_
    refine rs_bipush (v := nI 45) ri_196_178 rfl (by decide) ?_
    refine rs_iast (j := 9) ri_196_180 rfl (by decide) a9.1 (ro_vn (k := 9) (by decide) (by decide)) (by decide) ?_
    have n10 := nw_s (i := 9) (x := nI 45) n9
    have a10 := lr_s (i := 9) (x := 45) a9
    generalize ro_sI N9 163 9 (nI 45) = N10 at n10 a10 ⊢
    refine rs_dup ri_196_181 rfl rfl ?_
    refine rs_bipush (v := nI 10) ri_196_182 rfl (by decide) ?_
    refine rs_bipush (v := nI 99) ri_196_184 rfl (by decide) ?_
    refine rs_iast (j := 10) ri_196_186 rfl (by decide) a10.1 (ro_vn (k := 10) (by decide) (by decide)) (by decide) ?_
    have n11 := nw_s (i := 10) (x := nI 99) n10
    have a11 := lr_s (i := 10) (x := 99) a10
    generalize ro_sI N10 163 10 (nI 99) = N11 at n11 a11 ⊢
    refine rs_dup ri_196_187 rfl rfl ?_
    refine rs_bipush (v := nI 11) ri_196_188 rfl (by decide) ?_
    refine rs_bipush (v := nI 47) ri_196_190 rfl (by decide) ?_
    refine rs_iast (j := 11) ri_196_192 rfl (by decide) a11.1 (ro_vn (k := 11) (by decide) (by decide)) (by decide) ?_
    have n12 := nw_s (i := 11) (x := nI 47) n11
    have a12 := lr_s (i := 11) (x := 47) a11
    generalize ro_sI N11 163 11 (nI 47) = N12 at n12 a12 ⊢
    refine rs_dup ri_196_193 rfl rfl ?_
    refine rs_bipush (v := nI 12) ri_196_194 rfl (by decide) ?_
    refine rs_bipush (v := nI 51) ri_196_196 rfl (by decide) ?_
    refine rs_iast (j := 12) ri_196_198 rfl (by decide) a12.1 (ro_vn (k := 12) (by decide) (by decide)) (by decide) ?_
    have n13 := nw_s (i := 12) (x := nI 51) n12
    have a13 := lr_s (i := 12) (x := 51) a12
    generalize ro_sI N12 163 12 (nI 51) = N13 at n13 a13 ⊢
    refine rs_dup ri_196_199 rfl rfl ?_
    refine rs_bipush (v := nI 13) ri_196_200 rfl (by decide) ?_
    refine rs_bipush (v := nI 43) ri_196_202 rfl (by decide) ?_
    refine rs_iast (j := 13) ri_196_204 rfl (by decide) a13.1 (ro_vn (k := 13) (by decide) (by decide)) (by decide) ?_
    have n14 := nw_s (i := 13) (x := nI 43) n13
    have a14 := lr_s (i := 13) (x := 43) a13
    generalize ro_sI N13 163 13 (nI 43) = N14 at n14 a14 ⊢
    refine rs_dup ri_196_205 rfl rfl ?_
    refine rs_bipush (v := nI 14) ri_196_206 rfl (by decide) ?_
    refine rs_bipush (v := nI 104) ri_196_208 rfl (by decide) ?_
    refine rs_iast (j := 14) ri_196_210 rfl (by decide) a14.1 (ro_vn (k := 14) (by decide) (by decide)) (by decide) ?_
    have n15 := nw_s (i := 14) (x := nI 104) n14
    have a15 := lr_s (i := 14) (x := 104) a14
    generalize ro_sI N14 163 14 (nI 104) = N15 at n15 a15 ⊢
    refine rs_dup ri_196_211 rfl rfl ?_
    refine rs_bipush (v := nI 15) ri_196_212 rfl (by decide) ?_
    refine rs_bipush (v := nI 37) ri_196_214 rfl (by decide) ?_
    refine rs_iast (j := 15) ri_196_216 rfl (by decide) a15.1 (ro_vn (k := 15) (by decide) (by decide)) (by decide) ?_
    have n16 := nw_s (i := 15) (x := nI 37) n15
    have a16 := lr_s (i := 15) (x := 37) a15
    generalize ro_sI N15 163 15 (nI 37) = N16 at n16 a16 ⊢
    refine rs_dup ri_196_217 rfl rfl ?_
    refine rs_bipush (v := nI 16) ri_196_218 rfl (by decide) ?_
    refine rs_bipush (v := nI 51) ri_196_220 rfl (by decide) ?_
    refine rs_iast (j := 16) ri_196_222 rfl (by decide) a16.1 (ro_vn (k := 16) (by decide) (by decide)) (by decide) ?_
    have n17 := nw_s (i := 16) (x := nI 51) n16
    have a17 := lr_s (i := 16) (x := 51) a16
    generalize ro_sI N16 163 16 (nI 51) = N17 at n17 a17 ⊢
    refine rs_dup ri_196_223 rfl rfl ?_
    refine rs_bipush (v := nI 17) ri_196_224 rfl (by decide) ?_
    refine rs_bipush (v := nI 43) ri_196_226 rfl (by decide) ?_
    refine rs_iast (j := 17) ri_196_228 rfl (by decide) a17.1 (ro_vn (k := 17) (by decide) (by decide)) (by decide) ?_
    have n18 := nw_s (i := 17) (x := nI 43) n17
    have a18 := lr_s (i := 17) (x := 43) a17
    generalize ro_sI N17 163 17 (nI 43) = N18 at n18 a18 ⊢
    refine rs_dup ri_196_229 rfl rfl ?_
    refine rs_bipush (v := nI 18) ri_196_230 rfl (by decide) ?_
    refine rs_bipush (v := nI 110) ri_196_232 rfl (by decide) ?_
    refine rs_iast (j := 18) ri_196_234 rfl (by decide) a18.1 (ro_vn (k := 18) (by decide) (by decide)) (by decide) ?_
    have n19 := nw_s (i := 18) (x := nI 110) n18
    have a19 := lr_s (i := 18) (x := 110) a18
    generalize ro_sI N18 163 18 (nI 110) = N19 at n19 a19 ⊢
    refine rs_astore_n (lv2 := [(2, .ref 163), (0, .ref 4), (1, .ref 0)]) ri_196_235 rfl rm_196.1 (by decide) rfl ?_
    refine rs_aload_n ri_196_236 rfl rfl ?_
    refine rs_aload_n ri_196_237 rfl rfl ?_
    refine rs_aload_n ri_196_238 rfl rfl ?_
    refine rs_len (v := nI 19) ri_196_239 rfl (by omega) (a19.1) (by decide) rfl ?_
    have hk19 : kv [] N19 := kv_nw hk n19
    have la : lr_a N19 163 19 tbN := lr_f a19 (fun i hi => by revert i; decide)
    have h5 : N19.2.1 16 5 = 0 := by rw [(n19.2.2 16 (by decide)).1]; exact hb.2.2.1
    refine rs_stat (As := [.ref 4, .ref 163, .int (nI 19)]) (r := []) ri_196_240 rfl rm_199.2.2.2 rfl rfl rfl (Nat.le_of_ble_eq_true rfl) (⟨by decide, by decide⟩) (by omega) (lx_199 hk19 h5 (by decide) (by decide) (fun i hi => (tbN_b i hi).2) la) ?_
    rintro v M2 ⟨e1, hk2, hw2, h52, h172⟩
    rw [e1]
    show ro_w X _ 196 _ 243 [(2, .ref 163), (0, .ref 4), (1, .ref 0)] [.int (ro_b true)] M2 (1, 19)
    refine rs_ifeq_b (t := 258) ri_196_243 rfl rfl (fun q => absurd (q.symm.trans (rfl)) (by decide)) (fun _ => ?_)
    refine rs_aload_n ri_196_246 rfl rfl ?_
    refine rs_virt (c := 4) (As := []) (r := []) ri_196_247 rfl (by decide) rm_43.2.2.2 rm_43.2.2.1 rfl rfl rfl (by decide) (lr_4 hk2) (Nat.le_of_ble_eq_true rfl) (⟨by decide, by decide⟩) (by omega) (ca_law (X := X) hk2 h52 (fun i hi => (h172 i hi).trans (tbN_b i hi).1)) ?_
    rintro v M3 ⟨e3, hw3, L3, hk3⟩
    rw [e3]
    show ro_w X _ 196 _ 250 [(2, .ref 163), (0, .ref 4), (1, .ref 0)] [.int (nI 1)] M3 (1, 19)
    refine rs_iconst (v := nI 1) ri_196_250 rfl (by decide) ?_
    refine rs_icmp_ne (t := 258) ri_196_251 rfl rfl (fun q => absurd (by decide) q) (fun _ => ?_)
    refine rs_iconst (v := nI 1) ri_196_254 rfl (by decide) ?_
    refine rs_goto (t := 259) ri_196_255 rfl ?_
    refine rs_zret (p := true) ri_196_259 rm_196.2.1 (⟨by decide, by decide⟩) rfl ?_
    refine ⟨rfl, L3, hk3, ?_⟩
    have r : ∀ c j, c < 163 → ro_lv c j = true → kS_l c j = false → kS_t c j = false → M3.2.1 c j = M.2.1 c j := fun c j h1 h2 h3 h4 => by
      rw [hw3.2.1 c j h1 h2 h3, hw2.2.1 c j h1 h2 h4, (n19.2.2 c (by omega)).1]
    obtain ⟨b1, b2, b3, b4, b5⟩ := hb
    obtain ⟨m1, m2, m3⟩ := hn
    refine ⟨?_, fun i hi => ?_, fun j hj => ?_, ?_, ?_, ?_⟩
    · rw [r 5 4 (by decide) rfl rfl rfl]; exact b1
    · rw [r 7 i (by decide) rfl rfl rfl, r 8 i (by decide) rfl rfl rfl, r 9 i (by decide) rfl rfl rfl, r 10 i (by decide) rfl rfl rfl]; exact b2 i hi
    · rw [r 11 j (by decide) rfl rfl rfl]; exact b4 j hj
    · rw [r 5 5 (by decide) rfl rfl rfl]; exact m1
    · rw [r 5 6 (by decide) rfl rfl rfl]; exact m2
    · rw [r 5 7 (by decide) rfl rfl rfl]; exact m3
  · refine rs_aload_n ri_196_114 rfl rfl ?_
    refine rs_stat (As := [.ref 0]) (r := []) ri_196_115 rfl rm_198.2.2.2 rfl rfl rfl (Nat.le_of_ble_eq_true rfl) (⟨by decide, by decide⟩) (by omega) (lx_198 hX) ?_
    rintro v M2 ⟨e1, e2⟩
    rw [e1, e2]
    show ro_w X _ 196 _ 118 [(0, .ref 4), (1, .ref 0)] [.int (ro_b ((hl X)))] M (0, 0)
    refine rs_ifne_b (t := 123) ri_196_118 rfl rfl (fun q => absurd (q.symm.trans (Bool.eq_false_iff.mpr h)) (by decide)) (fun _ => ?_)
    refine rs_iconst (v := nI 1) ri_196_121 rfl (by decide) ?_
    refine rs_zret (p := true) ri_196_122 rm_196.2.1 (⟨by decide, by decide⟩) rfl ?_
    exact ⟨rfl, [], hk, hb.1, hb.2.1, hb.2.2.2.1, hn⟩
theorem lp_196b (hX : X.1 ≤ 260) {M : ro_Mm} (hk : kv [] M) (hb : bu X M (np X)) (hn : bn M 3 0 6) : ro_w X 450 196 (fun v M2 => v = some (.int (ro_b true)) ∧ ∃ L, kv L M2 ∧ bz X M2) 78 [(0, .ref 4), (1, .ref 0)] [] M (0, 0) := by
  refine rs_iconst (v := nI 0) ri_196_78 rfl (by decide) ?_
  refine rs_istore_n (lv2 := [(2, .int (nI 0)), (0, .ref 4), (1, .ref 0)]) ri_196_79 rfl rm_196.1 (by decide) rfl ?_
  refine rs_iload_n ri_196_80 rfl rfl ?_
  refine rs_iconst (v := nI 3) ri_196_81 rfl (by decide) ?_
  refine rs_icmp_ge (t := 114) ri_196_82 rfl rfl (fun q => absurd q (by decide)) (fun _ => ?_)
  refine rs_aload_n ri_196_85 rfl rfl ?_
  refine rs_iconst (v := nI 0) ri_196_86 rfl (by decide) ?_
  refine rs_iconst (v := nI 4) ri_196_87 rfl (by decide) ?_
  refine rs_iload_n ri_196_88 rfl rfl ?_
  refine rs_iadd (r := nI 4) ri_196_89 rfl (by decide) ?_
  refine rs_aload_n ri_196_90 rfl rfl ?_
  refine rs_iload_n ri_196_91 rfl rfl ?_
  refine rs_stat (As := [.ref 0, .int (nI 0)]) (r := [.int (nI 4), .int (nI 0), .ref 4]) ri_196_92 rfl rm_197.2.2.2 rfl rfl rfl (Nat.le_of_ble_eq_true rfl) (⟨by decide, by decide⟩) (by omega) (lx_197_0 hX) ?_
  rintro v M9 ⟨f1, f2⟩
  rw [f1, f2]
  show ro_w X _ 196 _ 95 [(2, .int (nI 0)), (0, .ref 4), (1, .ref 0)] [.int (nI (to0 X)), .int (nI 4), .int (nI 0), .ref 4] M (0, 0)
  refine rs_virt (c := 4) (As := [.int (nI 0), .int (nI 4), .int (nI (to0 X))]) (r := []) ri_196_95 rfl (by decide) rm_27.2.2.2 rm_27.2.2.1 rfl rfl rfl (by decide) (lr_4 hk) (Nat.le_of_ble_eq_true rfl) (⟨by decide, by decide⟩) (by omega) (ca_mend4 (X := X) hk to0_b) ?_
  rintro v M1 ⟨e1, hk1, hw1, hv1⟩
  rw [e1, show M.2.1 5 5 = nI 3 from hn.1]
  obtain ⟨hb1, h1e⟩ := bu_m (by decide) hb hw1
  show ro_w X _ 196 _ 98 [(2, .int (nI 0)), (0, .ref 4), (1, .ref 0)] [.int (nI 3)] M1 (0, 0)
  refine rs_gs ri_196_98 rfl ?_
  refine rs_iload_n ri_196_101 rfl rfl ?_
  refine rs_iald0 (v := nI 3) ri_196_102 rfl (by decide) (ro_vn (k := 0) (n := 3) (by decide) (by decide)) (by rfl) ?_
  refine rs_icmp_eq (t := 108) ri_196_103 rfl rfl (fun _ => ?_) (fun q => absurd (by decide) q)
  refine rs_iinc (v := nI 1) (lv2 := [(2, .int (nI 1)), (0, .ref 4), (1, .ref 0)]) ri_196_108 rfl rfl (nI_1 0) rm_196.1 (by decide) rfl ?_
  refine rs_goto (t := 80) ri_196_111 rfl ?_
  refine rs_iload_n ri_196_80 rfl rfl ?_
  refine rs_iconst (v := nI 3) ri_196_81 rfl (by decide) ?_
  refine rs_icmp_ge (t := 114) ri_196_82 rfl rfl (fun q => absurd q (by decide)) (fun _ => ?_)
  refine rs_aload_n ri_196_85 rfl rfl ?_
  refine rs_iconst (v := nI 0) ri_196_86 rfl (by decide) ?_
  refine rs_iconst (v := nI 4) ri_196_87 rfl (by decide) ?_
  refine rs_iload_n ri_196_88 rfl rfl ?_
  refine rs_iadd (r := nI 5) ri_196_89 rfl (by decide) ?_
  refine rs_aload_n ri_196_90 rfl rfl ?_
  refine rs_iload_n ri_196_91 rfl rfl ?_
  refine rs_stat (As := [.ref 0, .int (nI 1)]) (r := [.int (nI 5), .int (nI 0), .ref 4]) ri_196_92 rfl rm_197.2.2.2 rfl rfl rfl (Nat.le_of_ble_eq_true rfl) (⟨by decide, by decide⟩) (by omega) (lx_197_1 hX) ?_
  rintro v M9 ⟨f1, f2⟩
  rw [f1, f2]
  show ro_w X _ 196 _ 95 [(2, .int (nI 1)), (0, .ref 4), (1, .ref 0)] [.int (nI (to1 X)), .int (nI 5), .int (nI 0), .ref 4] M1 (0, 0)
  refine rs_virt (c := 4) (As := [.int (nI 0), .int (nI 5), .int (nI (to1 X))]) (r := []) ri_196_95 rfl (by decide) rm_27.2.2.2 rm_27.2.2.1 rfl rfl rfl (by decide) (lr_4 hk1) (Nat.le_of_ble_eq_true rfl) (⟨by decide, by decide⟩) (by omega) (ca_mend5 (X := X) hk1 to1_b) ?_
  rintro v M2 ⟨e2, hk2, hw2, hv2⟩
  rw [e2, show M1.2.1 5 6 = nI 0 from (h1e 6 (by decide)).trans hn.2.1]
  obtain ⟨hb2, h2e⟩ := bu_m (by decide) hb1 hw2
  show ro_w X _ 196 _ 98 [(2, .int (nI 1)), (0, .ref 4), (1, .ref 0)] [.int (nI 0)] M2 (0, 0)
  refine rs_gs ri_196_98 rfl ?_
  refine rs_iload_n ri_196_101 rfl rfl ?_
  refine rs_iald0 (v := nI 0) ri_196_102 rfl (by decide) (ro_vn (k := 1) (n := 3) (by decide) (by decide)) (by rfl) ?_
  refine rs_icmp_eq (t := 108) ri_196_103 rfl rfl (fun _ => ?_) (fun q => absurd (by decide) q)
  refine rs_iinc (v := nI 2) (lv2 := [(2, .int (nI 2)), (0, .ref 4), (1, .ref 0)]) ri_196_108 rfl rfl (nI_1 1) rm_196.1 (by decide) rfl ?_
  refine rs_goto (t := 80) ri_196_111 rfl ?_
  refine rs_iload_n ri_196_80 rfl rfl ?_
  refine rs_iconst (v := nI 3) ri_196_81 rfl (by decide) ?_
  refine rs_icmp_ge (t := 114) ri_196_82 rfl rfl (fun q => absurd q (by decide)) (fun _ => ?_)
  refine rs_aload_n ri_196_85 rfl rfl ?_
  refine rs_iconst (v := nI 0) ri_196_86 rfl (by decide) ?_
  refine rs_iconst (v := nI 4) ri_196_87 rfl (by decide) ?_
  refine rs_iload_n ri_196_88 rfl rfl ?_
  refine rs_iadd (r := nI 6) ri_196_89 rfl (by decide) ?_
  refine rs_aload_n ri_196_90 rfl rfl ?_
  refine rs_iload_n ri_196_91 rfl rfl ?_
  refine rs_stat (As := [.ref 0, .int (nI 2)]) (r := [.int (nI 6), .int (nI 0), .ref 4]) ri_196_92 rfl rm_197.2.2.2 rfl rfl rfl (Nat.le_of_ble_eq_true rfl) (⟨by decide, by decide⟩) (by omega) (lx_197_2 hX) ?_
  rintro v M9 ⟨f1, f2⟩
  rw [f1, f2]
  show ro_w X _ 196 _ 95 [(2, .int (nI 2)), (0, .ref 4), (1, .ref 0)] [.int (nI (to2 X)), .int (nI 6), .int (nI 0), .ref 4] M2 (0, 0)
  refine rs_virt (c := 4) (As := [.int (nI 0), .int (nI 6), .int (nI (to2 X))]) (r := []) ri_196_95 rfl (by decide) rm_27.2.2.2 rm_27.2.2.1 rfl rfl rfl (by decide) (lr_4 hk2) (Nat.le_of_ble_eq_true rfl) (⟨by decide, by decide⟩) (by omega) (ca_mend6 (X := X) hk2 to2_b) ?_
  rintro v M3 ⟨e3, hk3, hw3, hv3⟩
  rw [e3, show M2.2.1 5 7 = nI 6 from (h2e 7 (by decide)).trans ((h1e 7 (by decide)).trans hn.2.2)]
  obtain ⟨hb3, h3e⟩ := bu_m (by decide) hb2 hw3
  show ro_w X _ 196 _ 98 [(2, .int (nI 2)), (0, .ref 4), (1, .ref 0)] [.int (nI 6)] M3 (0, 0)
  refine rs_gs ri_196_98 rfl ?_
  refine rs_iload_n ri_196_101 rfl rfl ?_
  refine rs_iald0 (v := nI 6) ri_196_102 rfl (by decide) (ro_vn (k := 2) (n := 3) (by decide) (by decide)) (by rfl) ?_
  refine rs_icmp_eq (t := 108) ri_196_103 rfl rfl (fun _ => ?_) (fun q => absurd (by decide) q)
  refine rs_iinc (v := nI 3) (lv2 := [(2, .int (nI 3)), (0, .ref 4), (1, .ref 0)]) ri_196_108 rfl rfl (nI_1 2) rm_196.1 (by decide) rfl ?_
  refine rs_goto (t := 80) ri_196_111 rfl ?_
  refine rs_iload_n ri_196_80 rfl rfl ?_
  refine rs_iconst (v := nI 3) ri_196_81 rfl (by decide) ?_
  refine rs_icmp_ge (t := 114) ri_196_82 rfl rfl (fun _ => ?_) (fun q => absurd (by decide) q)
  refine ro_w_lv (lv := [(0, .ref 4), (1, .ref 0)]) (ro_sub_c rfl (ro_sub_c rfl (ro_sub_n rfl))) ?_
  exact lp_196c hX hk3 hb3 ⟨(h3e 5 (by decide)).trans ((h2e 5 (by decide)).trans hv1), (h3e 6 (by decide)).trans hv2, hv3⟩
theorem lp_196a (hX : X.1 ≤ 260) : ∀ e k M, k + e = np X → kv [] M → bu X M k → bn M 3 0 6 → ro_w X 450 196 (fun v M2 => v = some (.int (ro_b true)) ∧ ∃ L, kv L M2 ∧ bz X M2) 2 [(2, .int (nI k)), (0, .ref 4), (1, .ref 0)] [] M (0, 0) := by
  have hnp := np_b (X := X)
  intro e
  induction e with
  | zero =>
    intro k M hke hk hb hn
    have ek : k = np X := by omega
    refine rs_iload_n ri_196_2 rfl rfl ?_
    refine rs_aload_n ri_196_3 rfl rfl ?_
    refine rs_stat (As := [.ref 0]) (r := [.int (nI k)]) ri_196_4 rfl rm_194.2.2.2 rfl rfl rfl (Nat.le_of_ble_eq_true rfl) (⟨by decide, by decide⟩) (by omega) (lx_194 hX) ?_
    rintro v M9 ⟨f1, f2⟩
    rw [f1, f2]
    show ro_w X _ 196 _ 7 [(2, .int (nI k)), (0, .ref 4), (1, .ref 0)] [.int (nI (np X)), .int (nI k)] M (0, 0)
    refine rs_icmp_ge (t := 78) ri_196_7 rfl rfl (fun _ => ?_) (fun q => absurd (nI_le (a := np X) (b := k) (by omega) (by omega)) q)
    refine ro_w_lv (lv := [(0, .ref 4), (1, .ref 0)]) (ro_sub_c rfl (ro_sub_c rfl (ro_sub_n rfl))) ?_
    rw [ek] at hb
    exact lp_196b hX hk hb hn
  | succ e ih =>
    intro k M hke hk hb hn
    have hk6 : k < 6 := by omega
    refine rs_iload_n ri_196_2 rfl rfl ?_
    refine rs_aload_n ri_196_3 rfl rfl ?_
    refine rs_stat (As := [.ref 0]) (r := [.int (nI k)]) ri_196_4 rfl rm_194.2.2.2 rfl rfl rfl (Nat.le_of_ble_eq_true rfl) (⟨by decide, by decide⟩) (by omega) (lx_194 hX) ?_
    rintro v M9 ⟨f1, f2⟩
    rw [f1, f2]
    show ro_w X _ 196 _ 7 [(2, .int (nI k)), (0, .ref 4), (1, .ref 0)] [.int (nI (np X)), .int (nI k)] M (0, 0)
    refine rs_icmp_ge (t := 78) ri_196_7 rfl rfl (fun q => absurd q (nI_ge (a := k) (b := np X) (by omega) (by omega))) (fun _ => ?_)
    refine rs_aload_n ri_196_10 rfl rfl ?_
    refine rs_aload_n ri_196_11 rfl rfl ?_
    refine rs_iload_n ri_196_12 rfl rfl ?_
    refine rs_iconst (v := nI 0) ri_196_13 rfl (by decide) ?_
    refine rs_stat (As := [.ref 0, .int (nI k), .int (nI 0)]) (r := [.ref 4]) ri_196_14 rfl rm_195.2.2.2 rfl rfl rfl (Nat.le_of_ble_eq_true rfl) (⟨by decide, by decide⟩) (by omega) (lx_195_0 hX (by omega)) ?_
    rintro v M9 ⟨f1, f2⟩
    rw [f1, f2]
    show ro_w X _ 196 _ 17 [(2, .int (nI k)), (0, .ref 4), (1, .ref 0)] [.int (nI (on0 X k)), .ref 4] M (0, 0)
    refine rs_virt (c := 4) (As := [.int (nI (on0 X k))]) (r := []) ri_196_17 rfl (by decide) rm_12.2.2.2 rm_12.2.2.1 rfl rfl rfl (by decide) (lr_4 hk) (Nat.le_of_ble_eq_true rfl) (⟨by decide, by decide⟩) (by omega) (ca_person (X := X) hk hk6 hb.1 on0_b) ?_
    rintro v M1 ⟨e1, hk1, hw1, h54, h7, h8, h9, h10⟩
    rw [e1]
    show ro_w X _ 196 _ 20 [(2, .int (nI k)), (0, .ref 4), (1, .ref 0)] [.int (nI k)] M1 (0, 0)
    refine rs_iload_n ri_196_20 rfl rfl ?_
    refine rs_icmp_ne (t := 70) ri_196_21 rfl rfl (fun q => absurd (congrArg nI (by omega)) q) (fun _ => ?_)
    refine rs_aload_n ri_196_24 rfl rfl ?_
    refine rs_iload_n ri_196_25 rfl rfl ?_
    refine rs_iconst (v := nI 1) ri_196_26 rfl (by decide) ?_
    refine rs_aload_n ri_196_27 rfl rfl ?_
    refine rs_iload_n ri_196_28 rfl rfl ?_
    refine rs_iconst (v := nI 1) ri_196_29 rfl (by decide) ?_
    refine rs_stat (As := [.ref 0, .int (nI k), .int (nI 1)]) (r := [.int (nI 1), .int (nI k), .ref 4]) ri_196_30 rfl rm_195.2.2.2 rfl rfl rfl (Nat.le_of_ble_eq_true rfl) (⟨by decide, by decide⟩) (by omega) (lx_195_1 hX (by omega)) ?_
    rintro v M9 ⟨f1, f2⟩
    rw [f1, f2]
    show ro_w X _ 196 _ 33 [(2, .int (nI k)), (0, .ref 4), (1, .ref 0)] [.int (nI (on1 X k)), .int (nI 1), .int (nI k), .ref 4] M1 (0, 0)
    refine rs_virt (c := 4) (As := [.int (nI k), .int (nI 1), .int (nI (on1 X k))]) (r := []) ri_196_33 rfl (by decide) rm_27.2.2.2 rm_27.2.2.1 rfl rfl rfl (by decide) (lr_4 hk1) (Nat.le_of_ble_eq_true rfl) (⟨by decide, by decide⟩) (by omega) (ca_mend1 (X := X) hk1 (p := k + 1) (by omega) h54 (by omega) on1_b) ?_
    rintro v M2 ⟨e2, hk2, hw2, hv2⟩
    rw [e2, h8]
    show ro_w X _ 196 _ 36 [(2, .int (nI k)), (0, .ref 4), (1, .ref 0)] [.int (nI 0)] M2 (0, 0)
    have h542 : M2.2.1 5 4 = nI (k + 1) := (hw2.2.1 5 4 (by decide) rfl (kS_m0 (by omega) (by omega))).trans h54
    have h92 : M2.2.1 9 k = 3 := (hw2.2.1 9 k (by decide) rfl (kS_m0 (by omega) (by omega))).trans h9
    have h102 : M2.2.1 10 k = 0 := (hw2.2.1 10 k (by decide) rfl (kS_m0 (by omega) (by omega))).trans h10
    refine rs_if_ne (t := 70) ri_196_36 rfl rfl (fun q => absurd (by decide) q) (fun _ => ?_)
    refine rs_aload_n ri_196_39 rfl rfl ?_
    refine rs_iload_n ri_196_40 rfl rfl ?_
    refine rs_iconst (v := nI 2) ri_196_41 rfl (by decide) ?_
    refine rs_aload_n ri_196_42 rfl rfl ?_
    refine rs_iload_n ri_196_43 rfl rfl ?_
    refine rs_iconst (v := nI 2) ri_196_44 rfl (by decide) ?_
    refine rs_stat (As := [.ref 0, .int (nI k), .int (nI 2)]) (r := [.int (nI 2), .int (nI k), .ref 4]) ri_196_45 rfl rm_195.2.2.2 rfl rfl rfl (Nat.le_of_ble_eq_true rfl) (⟨by decide, by decide⟩) (by omega) (lx_195_2 hX (by omega)) ?_
    rintro v M9 ⟨f1, f2⟩
    rw [f1, f2]
    show ro_w X _ 196 _ 48 [(2, .int (nI k)), (0, .ref 4), (1, .ref 0)] [.int (nI (on2 X k)), .int (nI 2), .int (nI k), .ref 4] M2 (0, 0)
    refine rs_virt (c := 4) (As := [.int (nI k), .int (nI 2), .int (nI (on2 X k))]) (r := []) ri_196_48 rfl (by decide) rm_27.2.2.2 rm_27.2.2.1 rfl rfl rfl (by decide) (lr_4 hk2) (Nat.le_of_ble_eq_true rfl) (⟨by decide, by decide⟩) (by omega) (ca_mend2 (X := X) hk2 (p := k + 1) (by omega) h542 (by omega) on2_b) ?_
    rintro v M3 ⟨e3, hk3, hw3, hv3⟩
    rw [e3, h92]
    show ro_w X _ 196 _ 51 [(2, .int (nI k)), (0, .ref 4), (1, .ref 0)] [.int (nI 3)] M3 (0, 0)
    have h543 : M3.2.1 5 4 = nI (k + 1) := (hw3.2.1 5 4 (by decide) rfl (kS_m0 (by omega) (by omega))).trans h542
    have h103 : M3.2.1 10 k = 0 := (hw3.2.1 10 k (by decide) rfl (kS_m0 (by omega) (by omega))).trans h102
    refine rs_iconst (v := nI 3) ri_196_51 rfl (by decide) ?_
    refine rs_icmp_ne (t := 70) ri_196_52 rfl rfl (fun q => absurd (by decide) q) (fun _ => ?_)
    refine rs_aload_n ri_196_55 rfl rfl ?_
    refine rs_iload_n ri_196_56 rfl rfl ?_
    refine rs_iconst (v := nI 3) ri_196_57 rfl (by decide) ?_
    refine rs_aload_n ri_196_58 rfl rfl ?_
    refine rs_iload_n ri_196_59 rfl rfl ?_
    refine rs_iconst (v := nI 3) ri_196_60 rfl (by decide) ?_
    refine rs_stat (As := [.ref 0, .int (nI k), .int (nI 3)]) (r := [.int (nI 3), .int (nI k), .ref 4]) ri_196_61 rfl rm_195.2.2.2 rfl rfl rfl (Nat.le_of_ble_eq_true rfl) (⟨by decide, by decide⟩) (by omega) (lx_195_3 hX (by omega)) ?_
    rintro v M9 ⟨f1, f2⟩
    rw [f1, f2]
    show ro_w X _ 196 _ 64 [(2, .int (nI k)), (0, .ref 4), (1, .ref 0)] [.int (nI (on3 X k)), .int (nI 3), .int (nI k), .ref 4] M3 (0, 0)
    refine rs_virt (c := 4) (As := [.int (nI k), .int (nI 3), .int (nI (on3 X k))]) (r := []) ri_196_64 rfl (by decide) rm_27.2.2.2 rm_27.2.2.1 rfl rfl rfl (by decide) (lr_4 hk3) (Nat.le_of_ble_eq_true rfl) (⟨by decide, by decide⟩) (by omega) (ca_mend3 (X := X) hk3 (p := k + 1) (by omega) h543 (by omega) (Nat.le_trans on3_b (by decide))) ?_
    rintro v M4 ⟨e4, hk4, hw4, hv4⟩
    rw [e4, h103]
    show ro_w X _ 196 _ 67 [(2, .int (nI k)), (0, .ref 4), (1, .ref 0)] [.int (nI 0)] M4 (0, 0)
    refine rs_if_eq (t := 72) ri_196_67 rfl rfl (fun _ => ?_) (fun q => absurd (by decide) q)
    refine rs_iinc (v := nI (k + 1)) (lv2 := [(2, .int (nI (k + 1))), (0, .ref 4), (1, .ref 0)]) ri_196_72 rfl rfl (nI_1 k) rm_196.1 (by decide) rfl ?_
    refine rs_goto (t := 2) ri_196_75 rfl ?_
    obtain ⟨g1, g2⟩ := bu_s hb hn hw1 hw2 hw3 hw4 h54 h7 hv2 hv3 hv4
    exact ih (k + 1) M4 (by omega) hk4 g1 g2
theorem lx_196 (hX : X.1 ≤ 260) {M : ro_Mm} (hk : kv [] M) (hb : bu X M 0) (hn : bn M 3 0 6) : ro_cwp X 451 196 [.ref 4, .ref 0] M (fun v M2 => v = some (.int (ro_b true)) ∧ ∃ L, kv L M2 ∧ bz X M2) := by
  refine rs_begin (lv0 := [(0, .ref 4), (1, .ref 0)]) (by decide) rfl (by rw [rm_196.1]; exact Nat.le_of_ble_eq_true rfl) rfl ?_
  refine rs_iconst (v := nI 0) ri_196_0 rfl (by decide) ?_
  refine rs_istore_n (lv2 := [(2, .int (nI 0)), (0, .ref 4), (1, .ref 0)]) ri_196_1 rfl rm_196.1 (by decide) rfl ?_
  exact lp_196a hX (np X) 0 M (by omega) hk hb hn
end LAWR
