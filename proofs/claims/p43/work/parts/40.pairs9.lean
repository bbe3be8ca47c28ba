/-! pairs of calls, on: a row of bytes, hands (by program, wip/whole/gen40.py) -/
section PAIRS9
variable {X : ro_Sx}
theorem xp_235_t {M : ro_Mm} {v : Int32} (hv : ro_bs v = true) : xp_235 M v := by
  obtain ⟨s1, s2, s3⟩ := ro_sx hv
  unfold xp_235
  grind
/-- it holds no bytes -/
theorem by_no {M : ro_Mm} (h : ro_Inv M) {v : Int32} (hv : ro_bs v = true) (hn : ¬ xf_22 M (ro_sc v) = true) : xf_235 M v < 0 ∧ xf_235 M v = xf_65 M (ro_sc v) := by
  have S := sh_of h hv
  have e : ¬ M.2.1 (ro_sc v) 1 = 0 := by grind [xf_22]
  rcases S with q | q | q
  · exact ⟨by grind [xf_235], by grind [xf_235, xf_65, xf_21]⟩
  · have q1 := q.1
    have q2 := q.2
    exact ⟨by grind [xf_235], by grind [xf_235, xf_65, xf_21]⟩
  · have q1 := q.1
    have q2 := q.2.1
    have q3 := q.2.2.1
    exact ⟨by grind [xf_235], by grind [xf_235, xf_65, xf_21]⟩
/-- it does: its length, its bytes -/
theorem by_yes {M : ro_Mm} (h : ro_Inv M) {v : Int32} (hv : ro_bs v = true) (hy : xf_22 M (ro_sc v) = true) : xf_235 M v = 0 ∧ ∃ z, z ≤ 60 ∧ M.2.1 (ro_sc v) 2 = nI z ∧ M.2.1 191 v.toNatClampNeg = nI z ∧ ∀ k, k < z → xf_25 M (ro_sc v) (nI k) = xf_238 M v (nI k) ∧ xp_238 M v (nI k) := by
  have S := sh_of h hv
  have e : M.2.1 (ro_sc v) 1 = 0 := by grind [xf_22]
  rcases S with q | q | q
  · exact absurd q.1 (by rw [e]; decide)
  · exact absurd q.1 (by rw [e]; decide)
  · obtain ⟨q1, q2, q3, q4, q5, q6, q7⟩ := q
    refine ⟨by grind [xf_235], (M.2.1 (ro_sc v) 2).toNatClampNeg, ro_cle (n := 60) q5 q6 (by decide), ro_nI_of q5, q4.trans (ro_nI_of q5), fun k hk => ?_⟩
    have z6 := ro_cle (n := 60) q5 q6 (by decide)
    obtain ⟨k1, k2⟩ := ro_60 (v := v) (i := nI k) (ro_bs_t hv) ⟨nI_le (a := 0) (b := k) (by omega) (by omega), nI_lt (a := k) (b := 60) (by omega) (by omega)⟩
    have q8 : (nI k).toNatClampNeg = k := nI_clamp (by omega)
    have n0 : ¬ nI k < 0 := nI_pos (by omega)
    have n1 : ¬ M.2.1 (ro_sc v) 2 ≤ nI k := by
      rw [ro_nI_of q5]
      exact nI_ge hk (by omega)
    have n2 : ¬ (60 : Int32) ≤ nI k := nI_ge (a := k) (b := 60) (by omega) (by omega)
    refine ⟨?_, k2, trivial⟩
    unfold xf_25 xf_26 xf_238
    rw [if_neg n0, if_neg n1, if_neg n2, k1, q8, q7 k hk]
theorem cl_110 {M : ro_Mm} (h : ro_Inv M) {v w : Int32} {c z : Nat} (s1 : vp_in v 6) (e2 : M.2.1 c 2 = nI z) (e3 : M.2.1 191 v.toNatClampNeg = nI z) (hz : z ≤ 60) (hb : ∀ k, k < z → xf_25 M c (nI k) = xf_238 M v (nI k) ∧ xp_238 M v (nI k)) : ∀ (d k n : Nat), k + d = 10 → d < n →
    xg_110_2 n M (nI k) c = xg_259_30 n M (nI k) v w ∧ xq_110_2 n M (nI k) c ∧ xq_259_30 n M (nI k) v w ∧ ∃ r, r ≤ 10 ∧ xg_110_2 n M (nI k) c = nI r ∧ ∀ y, k ≤ y → y < r → y < z ∧ xf_29 M (xf_25 M c (nI y)) = true := by
  have e4 : xf_24 M c = nI z := e2
  intro d
  induction d with
  | zero =>
    intro k n hk hn
    cases n with
    | zero => omega
    | succ n =>
      have e : k = 10 := by omega
      have q : (10 : Int32) ≤ nI k := by rw [e]; decide
      rw [xg_110_2, xg_259_30, xq_110_2, xq_259_30, if_pos q, if_pos q]
      exact ⟨rfl, ⟨fun _ => trivial, fun y => absurd q y⟩, ⟨fun _ => trivial, fun y => absurd q y⟩, k, by omega, rfl, fun y h1 h2 => by omega⟩
  | succ d ih =>
    intro k n hk hn
    cases n with
    | zero => omega
    | succ n =>
      have q : ¬ (10 : Int32) ≤ nI k := nI_ge (a := k) (b := 10) (by omega) (by omega)
      rw [xg_110_2, xg_259_30, xq_110_2, xq_259_30, if_neg q, if_neg q, e4, e3]
      by_cases hkz : k < z
      · have q2 : ¬ nI z ≤ nI k := nI_ge hkz (by omega)
        obtain ⟨b1, b2⟩ := hb k hkz
        rw [if_neg q2, if_neg q2, ← b1, ro_one_b h]
        by_cases x : xf_29 M (xf_25 M c (nI k)) = true
        · rw [if_pos x, if_pos x, ← nI_succ]
          obtain ⟨i1, i2, i3, r, i4, i5, i6⟩ := ih (k + 1) n (by omega) (by omega)
          refine ⟨i1, ⟨fun _ => trivial, fun _ => ⟨fun _ => trivial, fun _ => ⟨fun _ => i2, fun y => absurd x y⟩⟩⟩, ⟨fun _ => trivial, fun _ => ⟨s1, fun _ => trivial, fun _ => ⟨b2, fun _ => i3, fun y => absurd x y⟩⟩⟩, r, i4, i5, fun y h1 h2 => ?_⟩
          by_cases hy : y = k
          · rw [hy]; exact ⟨hkz, x⟩
          · exact i6 y (by omega) h2
        · rw [if_neg x, if_neg x]
          exact ⟨rfl, ⟨fun _ => trivial, fun _ => ⟨fun _ => trivial, fun _ => ⟨fun y => absurd y x, fun _ => trivial⟩⟩⟩, ⟨fun _ => trivial, fun _ => ⟨s1, fun _ => trivial, fun _ => ⟨b2, fun y => absurd y x, fun _ => trivial⟩⟩⟩, k, by omega, rfl, fun y h1 h2 => by omega⟩
      · have q2 : nI z ≤ nI k := nI_le (by omega) (by omega)
        rw [if_pos q2, if_pos q2]
        exact ⟨rfl, ⟨fun _ => trivial, fun _ => ⟨fun _ => trivial, fun y => absurd q2 y⟩⟩, ⟨fun _ => trivial, fun _ => ⟨s1, fun _ => trivial, fun y => absurd q2 y⟩⟩, k, by omega, rfl, fun y h1 h2 => by omega⟩
theorem cl_109 {M : ro_Mm} (h : ro_Inv M) {v w : Int32} {c r z : Nat} (hr : r ≤ 10) (hb : ∀ k, k < z → xf_25 M c (nI k) = xf_238 M v (nI k) ∧ xp_238 M v (nI k)) (ho : ∀ y, y < r → y < z ∧ xf_29 M (xf_25 M c (nI y)) = true) : ∀ (d k n : Nat) (a b : Int32), r ≤ k + d → k ≤ 11 → d < n →
    xg_109_45 n M (nI k) a b (nI r) c v w = xg_259_74 n M (nI k) a b (nI r) v w ∧ xq_109_45 n M (nI k) a b (nI r) c v w ∧ xq_259_74 n M (nI k) a b (nI r) v w := by
  obtain ⟨p, hp, e1, e2⟩ := ro_ppl h
  have en : xf_30 M 0 4 = M.2.1 168 0 := h.2.1.1.2.2.2.1.symm
  have stop : ∀ (k n : Nat) (a b : Int32), r ≤ k → k ≤ 11 → 0 < n → xg_109_45 n M (nI k) a b (nI r) c v w = xg_259_74 n M (nI k) a b (nI r) v w ∧ xq_109_45 n M (nI k) a b (nI r) c v w ∧ xq_259_74 n M (nI k) a b (nI r) v w := by
    intro k n a b hk hk1 hn
    cases n with
    | zero => omega
    | succ n =>
      have q : nI r ≤ nI k := nI_le hk (by omega)
      rw [xg_109_45, xg_259_74, xq_109_45, xq_259_74, if_pos q, if_pos q]
      exact ⟨rfl, ⟨fun _ => trivial, fun y => absurd q y⟩, ⟨fun _ => trivial, fun y => absurd q y⟩⟩
  intro d
  induction d with
  | zero => intro k n a b hk hk1 hn; exact stop k n a b (by omega) hk1 (by omega)
  | succ d ih =>
    intro k n a b hk hk1 hn
    by_cases hkr : k < r
    · cases n with
      | zero => omega
      | succ n =>
        have q : ¬ nI r ≤ nI k := nI_ge hkr (by omega)
        obtain ⟨o1, o2⟩ := ho k hkr
        obtain ⟨b1, b2⟩ := hb k o1
        obtain ⟨j, hj, ej⟩ := ro_one_i hp e1 o2
        have hj6 : j < 6 := by omega
        obtain ⟨q1, q2, q3, q4⟩ := ro_n6 hj6
        have bj := h.2.1.2.1 j hj6
        have f2 : xf_30 M (nI j) 2 = M.2.1 166 j := by
          unfold xf_30
          rw [if_neg (by decide), if_neg (by decide), if_pos rfl, if_neg q1, if_neg q2, q3, bj.2.2.1.1]
        have em : xf_238 M v (nI k) = nI j := b1.symm.trans ej
        have ec : ((nI r - 1) - nI k) * (4 - M.2.1 168 0) = (4 - M.2.1 168 0) * ((nI r - 1) - nI k) := Int32.mul_comm _ _
        rw [xg_109_45, xg_259_74, xq_109_45, xq_259_74, if_neg q, if_neg q, ej, em, f2, en, q3, ec, ← nI_succ]
        obtain ⟨i1, i2, i3⟩ := ih (k + 1) n a b (by omega) (by omega) (by omega)
        obtain ⟨j1, j2, j3⟩ := ih (k + 1) n (nI k) (M.2.1 166 j - (4 - M.2.1 168 0) * ((nI r - 1) - nI k)) (by omega) (by omega) (by omega)
        by_cases x : M.2.1 166 j - (4 - M.2.1 168 0) * ((nI r - 1) - nI k) ≤ b
        · have x2 : ¬ b < M.2.1 166 j - (4 - M.2.1 168 0) * ((nI r - 1) - nI k) := Int32.not_lt.mpr x
          rw [if_pos x, if_neg x2]
          exact ⟨i1, ⟨fun _ => trivial, fun _ => ⟨fun _ => i2, fun y => absurd x y⟩⟩, ⟨fun _ => trivial, fun _ => ⟨b2, q4, fun y => absurd y x2, fun _ => i3⟩⟩⟩
        · have x2 : b < M.2.1 166 j - (4 - M.2.1 168 0) * ((nI r - 1) - nI k) := Int32.not_le.mp x
          rw [if_neg x, if_pos x2]
          exact ⟨j1, ⟨fun _ => trivial, fun _ => ⟨fun y => absurd y x, fun _ => j2⟩⟩, ⟨fun _ => trivial, fun _ => ⟨b2, q4, fun _ => j3, fun y => absurd x2 y⟩⟩⟩
    · exact stop k n a b (by omega) hk1 (by omega)
theorem all_14 {M : ro_Mm} (h : ro_Inv M) {v1 v2 : Int32} : xp_109 M v1 v2 ∧ xp_259 M v1 v2 ∧ xf_259 M v1 v2 = xf_109 M v1 v2 := by
  by_cases b1 : ro_bs v1 = true
  · have f1 : xf_198 M v1 = true := by rw [ro_w198]; exact b1
    obtain ⟨s1, s2, s3⟩ := ro_sx b1
    have x235 := xp_235_t (M := M) b1
    by_cases r1 : xf_13 M v2 0 1 = true
    · have r2 : xf_195 M v2 0 1 = true := by rw [← ro_w13_195]; exact r1
      by_cases y1 : xf_22 M (ro_sc v1) = true
      · obtain ⟨g0, z, hz, g1, g2, g3⟩ := by_yes h b1 y1
        have A := cl_110 h (w := v2) s1 g1 g2 hz g3 10 0 lp_N (by omega) (lp_hug (by omega))
        rw [nI_0] at A
        obtain ⟨i1, i2, i3, r, i4, i5, i6⟩ := A
        have B := cl_109 h (w := v2) i4 g3 (fun y hy => i6 y (by omega) hy) 10 1 lp_N 0 0 (by omega) (by omega) (lp_hug (by omega))
        have B : xg_109_45 lp_N M 1 0 0 (nI r) (ro_sc v1) v1 v2 = xg_259_74 lp_N M 1 0 0 (nI r) v1 v2 ∧ xq_109_45 lp_N M 1 0 0 (nI r) (ro_sc v1) v1 v2 ∧ xq_259_74 lp_N M 1 0 0 (nI r) v1 v2 := B
        have e110 : xf_110 M (ro_sc v1) = nI r := i5
        have e30 : xg_259_30 lp_N M 0 v1 v2 = nI r := i1.symm.trans i5
        have n0 : (0 : Int32) ≤ xf_235 M v1 := by rw [g0]; decide
        refine ⟨?_, ?_, ?_⟩
        · unfold xp_109
          rw [e110]
          exact ⟨fun _ => ⟨fun _ => ⟨fun _ => ⟨⟨i2, trivial⟩, B.2.1, trivial⟩, fun _ => trivial⟩, fun _ => trivial⟩, fun _ => trivial⟩
        · unfold xp_259
          rw [e30]
          exact ⟨fun _ => ⟨fun _ => ⟨x235, fun _ => ⟨i3, B.2.2, trivial⟩, fun _ => trivial⟩, fun _ => trivial⟩, fun _ => trivial⟩
        · unfold xf_259 xf_109
          rw [if_pos f1, if_pos r2, if_pos n0, if_pos b1, if_pos r1, if_pos y1, e110, e30, B.1]
      · obtain ⟨g0, g1⟩ := by_no h b1 y1
        have n0 : ¬ (0 : Int32) ≤ xf_235 M v1 := Int32.not_le.mpr g0
        refine ⟨⟨fun _ => ⟨fun _ => ⟨fun y => absurd y y1, fun _ => trivial⟩, fun _ => trivial⟩, fun _ => trivial⟩, ⟨fun _ => ⟨fun _ => ⟨x235, fun y => absurd y n0, fun _ => trivial⟩, fun _ => trivial⟩, fun _ => trivial⟩, ?_⟩
        unfold xf_259 xf_109
        rw [if_pos f1, if_pos r2, if_neg n0, if_pos b1, if_pos r1, if_neg y1]
    · have r2 : ¬ xf_195 M v2 0 1 = true := by rw [← ro_w13_195]; exact r1
      refine ⟨⟨fun _ => ⟨fun y => absurd y r1, fun _ => trivial⟩, fun _ => trivial⟩, ⟨fun _ => ⟨fun y => absurd y r2, fun _ => trivial⟩, fun _ => trivial⟩, ?_⟩
      unfold xf_259 xf_109
      rw [if_pos f1, if_neg r2, if_pos b1, if_neg r1]
  · have f1 : ¬ xf_198 M v1 = true := by rw [ro_w198]; exact b1
    refine ⟨⟨fun y => absurd y b1, fun _ => trivial⟩, ⟨fun y => absurd y f1, fun _ => trivial⟩, ?_⟩
    unfold xf_259 xf_109
    rw [if_neg f1, if_neg b1]
theorem pc_14 {M : ro_Mm} (h : ro_Inv M) {v1 v2 : Int32} : xp_109 M v1 v2 := (all_14 h).1
theorem pp_14 {M : ro_Mm} (h : ro_Inv M) {v1 v2 : Int32} : xp_259 M v1 v2 := (all_14 h).2.1
theorem pe_14 {M : ro_Mm} (h : ro_Inv M) {v1 v2 : Int32} : xf_259 M v1 v2 = xf_109 M v1 v2 := (all_14 h).2.2
end PAIRS9

