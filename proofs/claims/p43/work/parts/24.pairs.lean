/-! pairs of calls: the class's, the reference's -/
section PAIRS
variable {X : ro_Sx}
/-- in a row of six -/
theorem iv_b_v {I : Nat → Nat → Int32} (h : iv_b I) {v : Int32} (h0 : 0 ≤ v) (h6 : v < 6) : vp_in v 6 ∧ v.toNatClampNeg < 6 ∧ I 164 v.toNatClampNeg = I 7 v.toNatClampNeg ∧ I 165 v.toNatClampNeg = I 8 v.toNatClampNeg ∧ I 166 v.toNatClampNeg = I 9 v.toNatClampNeg ∧ I 167 v.toNatClampNeg = I 10 v.toNatClampNeg := by
  have g := ro_clt (n := 6) h0 h6 (by decide)
  obtain ⟨b1, b2, b3, b4⟩ := h _ g
  exact ⟨ro_vin (n := 6) h0 h6 (by decide), g, b1.1, b2.1, b3.1, b4.1⟩
theorem pk_4 : ((4 : Int32) - 4).toNatClampNeg = 0 := by decide
theorem pk_5 : ((5 : Int32) - 4).toNatClampNeg = 1 := by decide
theorem pk_6 : ((6 : Int32) - 4).toNatClampNeg = 2 := by decide
theorem pv_4 : vp_in ((4 : Int32) - 4) 3 := by unfold vp_in; decide
theorem pv_5 : vp_in ((5 : Int32) - 4) 3 := by unfold vp_in; decide
theorem pv_6 : vp_in ((6 : Int32) - 4) 3 := by unfold vp_in; decide
theorem pe_3 {M : ro_Mm} (h : ro_Inv M) {v1 v2 : Int32} : xf_208 M v1 v2 = xf_36 M v1 v2 := by
  obtain ⟨ha1, ha2, ha3, ha4, ha5, ha6, ha7, ha8, ha9, ha10, ha11, ha12⟩ := h.2.1.1
  have c4 := pk_4
  have c5 := pk_5
  have c6 := pk_6
  by_cases h1 : 0 ≤ v1 ∧ v1 < M.2.1 5 4
  · obtain ⟨b0, b1, b2, b3, b4, b5⟩ := iv_b_v h.2.1.2.1 h1.1 (by grind)
    by_cases q0 : v2 = 0
    · rw [q0]; grind (splits := 40) [xf_208, xf_204, xf_195, xf_209, xf_203, xf_207, xf_36, xf_28, xf_30, xf_29, xf_31, xf_32, xf_37, xf_38, xf_39, ro_min]
    by_cases q1 : v2 = 1
    · rw [q1]; grind (splits := 40) [xf_208, xf_204, xf_195, xf_209, xf_203, xf_207, xf_36, xf_28, xf_30, xf_29, xf_31, xf_32, xf_37, xf_38, xf_39, ro_min]
    by_cases q2 : v2 = 2
    · rw [q2]; grind (splits := 40) [xf_208, xf_204, xf_195, xf_209, xf_203, xf_207, xf_36, xf_28, xf_30, xf_29, xf_31, xf_32, xf_37, xf_38, xf_39, ro_min]
    by_cases q3 : v2 = 3
    · rw [q3]; grind (splits := 40) [xf_208, xf_204, xf_195, xf_209, xf_203, xf_207, xf_36, xf_28, xf_30, xf_29, xf_31, xf_32, xf_37, xf_38, xf_39, ro_min]
    by_cases q4 : v2 = 4
    · rw [q4]; grind (splits := 40) [xf_208, xf_204, xf_195, xf_209, xf_203, xf_207, xf_36, xf_28, xf_30, xf_29, xf_31, xf_32, xf_37, xf_38, xf_39, ro_min]
    by_cases q5 : v2 = 5
    · rw [q5]; grind (splits := 40) [xf_208, xf_204, xf_195, xf_209, xf_203, xf_207, xf_36, xf_28, xf_30, xf_29, xf_31, xf_32, xf_37, xf_38, xf_39, ro_min]
    by_cases q6 : v2 = 6
    · rw [q6]; grind (splits := 40) [xf_208, xf_204, xf_195, xf_209, xf_203, xf_207, xf_36, xf_28, xf_30, xf_29, xf_31, xf_32, xf_37, xf_38, xf_39, ro_min]
    by_cases q7 : v2 = 7
    · rw [q7]; grind (splits := 40) [xf_208, xf_204, xf_195, xf_209, xf_203, xf_207, xf_36, xf_28, xf_30, xf_29, xf_31, xf_32, xf_37, xf_38, xf_39, ro_min]
    by_cases q8 : v2 = 8
    · rw [q8]; grind (splits := 40) [xf_208, xf_204, xf_195, xf_209, xf_203, xf_207, xf_36, xf_28, xf_30, xf_29, xf_31, xf_32, xf_37, xf_38, xf_39, ro_min]
    grind (splits := 40) [xf_208, xf_204, xf_195, xf_209, xf_203, xf_207, xf_36, xf_28, xf_30, xf_29, xf_31, xf_32, xf_37, xf_38, xf_39, ro_min]
  · by_cases h2 : v1 = 0
    · by_cases q4 : v2 = 4
      · rw [q4]; grind (splits := 40) [xf_208, xf_204, xf_195, xf_209, xf_203, xf_207, xf_36, xf_28, xf_30, xf_29, xf_31, xf_32, xf_37, xf_38, xf_39, ro_min]
      by_cases q5 : v2 = 5
      · rw [q5]; grind (splits := 40) [xf_208, xf_204, xf_195, xf_209, xf_203, xf_207, xf_36, xf_28, xf_30, xf_29, xf_31, xf_32, xf_37, xf_38, xf_39, ro_min]
      by_cases q6 : v2 = 6
      · rw [q6]; grind (splits := 40) [xf_208, xf_204, xf_195, xf_209, xf_203, xf_207, xf_36, xf_28, xf_30, xf_29, xf_31, xf_32, xf_37, xf_38, xf_39, ro_min]
      grind (splits := 40) [xf_208, xf_204, xf_195, xf_209, xf_203, xf_207, xf_36, xf_28, xf_30, xf_29, xf_31, xf_32, xf_37, xf_38, xf_39, ro_min]
    · grind (splits := 40) [xf_208, xf_204, xf_195, xf_209, xf_203, xf_207, xf_36, xf_28, xf_30, xf_29, xf_31, xf_32, xf_37, xf_38, xf_39, ro_min]
theorem pp_3 {M : ro_Mm} (h : ro_Inv M) {v1 v2 : Int32} : xp_208 M v1 v2 := by
  obtain ⟨ha1, ha2, ha3, ha4, ha5, ha6, ha7, ha8, ha9, ha10, ha11, ha12⟩ := h.2.1.1
  have c4 := pv_4
  have c5 := pv_5
  have c6 := pv_6
  by_cases h1 : 0 ≤ v1 ∧ v1 < M.2.1 5 4
  · obtain ⟨b0, b1, b2, b3, b4, b5⟩ := iv_b_v h.2.1.2.1 h1.1 (by grind)
    by_cases q0 : v2 = 0
    · rw [q0]; grind (splits := 40) [xp_208, xf_204, xf_195, xf_203, xp_207, xp_209]
    by_cases q1 : v2 = 1
    · rw [q1]; grind (splits := 40) [xp_208, xf_204, xf_195, xf_203, xp_207, xp_209]
    by_cases q2 : v2 = 2
    · rw [q2]; grind (splits := 40) [xp_208, xf_204, xf_195, xf_203, xp_207, xp_209]
    by_cases q3 : v2 = 3
    · rw [q3]; grind (splits := 40) [xp_208, xf_204, xf_195, xf_203, xp_207, xp_209]
    by_cases q4 : v2 = 4
    · rw [q4]; grind (splits := 40) [xp_208, xf_204, xf_195, xf_203, xp_207, xp_209]
    by_cases q5 : v2 = 5
    · rw [q5]; grind (splits := 40) [xp_208, xf_204, xf_195, xf_203, xp_207, xp_209]
    by_cases q6 : v2 = 6
    · rw [q6]; grind (splits := 40) [xp_208, xf_204, xf_195, xf_203, xp_207, xp_209]
    by_cases q7 : v2 = 7
    · rw [q7]; grind (splits := 40) [xp_208, xf_204, xf_195, xf_203, xp_207, xp_209]
    by_cases q8 : v2 = 8
    · rw [q8]; grind (splits := 40) [xp_208, xf_204, xf_195, xf_203, xp_207, xp_209]
    grind (splits := 40) [xp_208, xf_204, xf_195, xf_203, xp_207, xp_209]
  · by_cases h2 : v1 = 0
    · by_cases q4 : v2 = 4
      · rw [q4]; grind (splits := 40) [xp_208, xf_204, xf_195, xf_203, xp_207, xp_209]
      by_cases q5 : v2 = 5
      · rw [q5]; grind (splits := 40) [xp_208, xf_204, xf_195, xf_203, xp_207, xp_209]
      by_cases q6 : v2 = 6
      · rw [q6]; grind (splits := 40) [xp_208, xf_204, xf_195, xf_203, xp_207, xp_209]
      grind (splits := 40) [xp_208, xf_204, xf_195, xf_203, xp_207, xp_209]
    · grind (splits := 40) [xp_208, xf_204, xf_195, xf_203, xp_207, xp_209]
theorem pe_25 {M : ro_Mm} (h : ro_Inv M) {v1 : Int32} : xf_278 M v1 = xf_148 M v1 := by
  by_cases h1 : 0 ≤ v1 ∧ v1 < 4
  · have g := ro_clt (n := 4) h1.1 h1.2 (by decide)
    have e := h.2.1.2.2.1 _ g
    grind (splits := 40) [xf_278, xf_148, xf_195, xf_13, xf_149]
  · grind (splits := 40) [xf_278, xf_148, xf_195, xf_13, xf_149]
theorem pp_25 {M : ro_Mm} (_h : ro_Inv M) {v1 : Int32} : xp_278 M v1 := by
  by_cases h1 : 0 ≤ v1 ∧ v1 < 4
  · have g := ro_vin (n := 4) h1.1 h1.2 (by decide)
    grind [xp_278, xf_195]
  · grind [xp_278, xf_195]
theorem pe_32 {M : ro_Mm} (h : ro_Inv M) {v1 : Int32} : xf_281 M v1 = xf_173 M v1 := by
  have e1 := h.2.1.2.2.2.2.2.2.2.2.1.1
  by_cases h1 : 0 ≤ v1 ∧ v1 < 24
  · have g := ro_clt (n := 24) h1.1 h1.2 (by decide)
    have e := h.2.1.2.2.2.2.2.2.2.2.2.2 _ g
    grind (splits := 40) [xf_281, xf_173, xf_174]
  · grind (splits := 40) [xf_281, xf_173, xf_174]
theorem mm_0 {M : ro_Mm} (h : ro_Inv M) {v1 : Int32} : (xm_12 M v1 = M ∧ xf_12 M v1 = xf_194 M v1 ∧ xm_194 M v1 = M ∧ xp_194 M v1) ∨ (0 ≤ v1 ∧ v1 ≤ 20 ∧ M.2.1 5 4 < 6 ∧ xf_12 M v1 = M.2.1 5 4 ∧ xm_12 M v1 = ro_sI (ro_sI (ro_sI (ro_sI (ro_sI M 7 (M.2.1 5 4).toNatClampNeg v1) 8 (M.2.1 5 4).toNatClampNeg 0) 9 (M.2.1 5 4).toNatClampNeg 3) 10 (M.2.1 5 4).toNatClampNeg 0) 5 4 (M.2.1 5 4 + 1)) := by
  obtain ⟨ha1, ha2, ha3, ha4⟩ := h.2.1.1
  by_cases h1 : 0 ≤ v1 ∧ v1 ≤ 20
  · by_cases h2 : M.2.1 5 4 < 6
    · obtain ⟨e1, e2⟩ := ro_in14 (w := v1) (c := 0) (p := 3) ha2 h2 h1 (by decide) (by decide)
      have w := (ro_w13 (M := M) (v := v1) (a := 0) (b := 20)).mpr h1
      refine Or.inr ⟨h1.1, h1.2, h2, ?_, ?_⟩
      · unfold xf_12 xf_18
        rw [if_pos w, e2, if_pos e1]
        show M.2.1 5 4 + 1 - 1 = _
        grind
      · unfold xm_12
        rw [if_pos w, e2]
    · obtain ⟨e1, e2⟩ := ro_no14 (M := M) (w := v1) (c := 0) (p := 3) (Or.inr (Or.inr (Or.inr (by grind))))
      refine Or.inl ⟨?_, ?_, ?_, ?_⟩
      · grind [xm_12]
      · grind [xf_12, xf_194, xf_13, xf_195]
      · grind [xm_194]
      · grind [xp_194]
  · refine Or.inl ⟨?_, ?_, ?_, ?_⟩
    · grind [xm_12, xf_13]
    · grind [xf_12, xf_194, xf_13, xf_195]
    · grind [xm_194, xf_195]
    · grind [xp_194, xf_195]
theorem ro_nI_of {v : Int32} (h : 0 ≤ v) : v = nI v.toNatClampNeg := by
  have h2 := Int32.le_iff_toInt_le.mp h
  have h3 : (0 : Int32).toInt = 0 := by decide
  rw [h3] at h2
  apply Int32.toInt_inj.mp
  have h4 : v.toInt < 2 ^ 31 := Int32.toInt_lt v
  have h5 : v.toNatClampNeg = v.toInt.toNat := rfl
  rw [nI_toInt (by omega)]
  omega
theorem mm_194 {M : ro_Mm} {v1 : Int32} (h1 : 0 ≤ v1 ∧ v1 ≤ 20) (h2 : ¬ M.2.1 163 1 = 6) : xm_194 M v1 = xm_196 M v1 0 3 ∧ xf_194 M v1 = M.2.1 163 1 := by
  unfold xm_194 xf_194 xf_196
  rw [if_pos (ro_w195.mpr h1), if_neg h2, if_pos (ro_w195.mpr h1), if_neg h2]
  exact ⟨rfl, by grind⟩
theorem pi_0 {M : ro_Mm} (h : ro_Inv M) {v1 : Int32} : ro_Inv (xm_194 (xm_12 M v1) v1) := by
  rcases mm_0 h (v1 := v1) with ⟨e1, e2, e3, e4⟩ | ⟨h0, h20, h6, e1, e2⟩
  · rw [e1, e3]; exact h
  · have hl := xl_12 (v1 := v1) h.1
    obtain ⟨ha1, ha2, ha3, ha4⟩ := h.2.1.1
    have hn := ro_clt (n := 6) ha2 h6 (by decide)
    have hv := ro_vin (n := 6) ha2 h6 (by decide)
    have hx : xp_194 (xm_12 M v1) v1 := by
      rw [e2]
      refine ⟨fun _ => ⟨fun _ => trivial, fun _ => ⟨?_, trivial⟩⟩, fun _ => trivial⟩
      show vp_in (M.2.1 163 1) 6 ∧ vp_in (M.2.1 163 1) 6 ∧ vp_in (M.2.1 163 1) 6 ∧ vp_in (M.2.1 163 1) 6 ∧ True
      rw [ha1]
      exact ⟨hv, hv, hv, hv, trivial⟩
    refine ⟨xl_194 hl hx, ?_⟩
    rw [e2]
    rw [(mm_194 ⟨h0, h20⟩ (by show ¬ M.2.1 163 1 = 6; grind)).1]
    unfold xm_196
    have hb := h.2.1.2.1
    refine ⟨⟨?_, ?_, h.2.1.2.2⟩, ?_⟩
    · show M.2.1 163 1 + 1 = M.2.1 5 4 + 1 ∧ 0 ≤ M.2.1 5 4 + 1 ∧ M.2.1 5 4 + 1 ≤ 6 ∧ _
      exact ⟨by rw [ha1], by grind, by grind, ha4⟩
    · intro i hi
      have hb := hb i hi
      show (ro_up2 M.2.1 164 (M.2.1 163 1).toNatClampNeg v1 164 i = ro_up2 M.2.1 7 (M.2.1 5 4).toNatClampNeg v1 7 i ∧ 0 ≤ ro_up2 M.2.1 7 (M.2.1 5 4).toNatClampNeg v1 7 i ∧ ro_up2 M.2.1 7 (M.2.1 5 4).toNatClampNeg v1 7 i ≤ 20) ∧ (ro_up2 M.2.1 165 (M.2.1 163 1).toNatClampNeg 0 165 i = ro_up2 M.2.1 8 (M.2.1 5 4).toNatClampNeg 0 8 i ∧ 0 ≤ ro_up2 M.2.1 8 (M.2.1 5 4).toNatClampNeg 0 8 i ∧ ro_up2 M.2.1 8 (M.2.1 5 4).toNatClampNeg 0 8 i ≤ 20) ∧ (ro_up2 M.2.1 166 (M.2.1 163 1).toNatClampNeg 3 166 i = ro_up2 M.2.1 9 (M.2.1 5 4).toNatClampNeg 3 9 i ∧ 0 ≤ ro_up2 M.2.1 9 (M.2.1 5 4).toNatClampNeg 3 9 i ∧ ro_up2 M.2.1 9 (M.2.1 5 4).toNatClampNeg 3 9 i ≤ 12) ∧ (ro_up2 M.2.1 167 (M.2.1 163 1).toNatClampNeg 0 167 i = ro_up2 M.2.1 10 (M.2.1 5 4).toNatClampNeg 0 10 i ∧ 0 ≤ ro_up2 M.2.1 10 (M.2.1 5 4).toNatClampNeg 0 10 i ∧ ro_up2 M.2.1 10 (M.2.1 5 4).toNatClampNeg 0 10 i ≤ 20)
      rw [ha1]
      grind [ro_up2]
    · intro s hs
      have g := h.2.2 s hs
      rcases (show s = 0 ∨ s = 1 ∨ s = 2 ∨ s = 3 ∨ s = 4 ∨ s = 5 by omega) with e | e | e | e | e | e <;> rw [e] at g ⊢ <;> exact g
theorem pp_0 {M : ro_Mm} (h : ro_Inv M) {v1 : Int32} : xp_194 (xm_12 M v1) v1 := by
  rcases mm_0 h (v1 := v1) with ⟨e1, e2, e3, e4⟩ | ⟨h0, h20, h6, e1, e2⟩
  · rw [e1]; exact e4
  · obtain ⟨ha1, ha2, ha3, ha4⟩ := h.2.1.1
    have hv := ro_vin (n := 6) ha2 h6 (by decide)
    rw [e2]
    refine ⟨fun _ => ⟨fun _ => trivial, fun _ => ⟨?_, trivial⟩⟩, fun _ => trivial⟩
    show vp_in (M.2.1 163 1) 6 ∧ vp_in (M.2.1 163 1) 6 ∧ vp_in (M.2.1 163 1) 6 ∧ vp_in (M.2.1 163 1) 6 ∧ True
    rw [ha1]
    exact ⟨hv, hv, hv, hv, trivial⟩
theorem pe_0 {M : ro_Mm} (h : ro_Inv M) {v1 : Int32} : xf_194 (xm_12 M v1) v1 = xf_12 M v1 := by
  rcases mm_0 h (v1 := v1) with ⟨e1, e2, e3, e4⟩ | ⟨h0, h20, h6, e1, e2⟩
  · rw [e1, e2]
  · obtain ⟨ha1, ha2, ha3, ha4⟩ := h.2.1.1
    rw [e1, e2, (mm_194 ⟨h0, h20⟩ (by show ¬ M.2.1 163 1 = 6; grind)).2]
    exact ha1
theorem mm_4 {M : ro_Mm} (h : ro_Inv M) {v1 : Int32} : (xm_40 M v1 = M ∧ xf_40 M v1 = xf_210 M v1 ∧ xm_210 M v1 = M ∧ xp_210 M v1) ∨ (0 ≤ v1 ∧ v1 ≤ 255 ∧ M.2.1 16 5 < 120 ∧ xf_40 M v1 = M.2.1 16 5 + 1 ∧ xm_40 M v1 = ro_sI (ro_sI M 17 (M.2.1 16 5).toNatClampNeg v1) 16 5 (M.2.1 16 5 + 1)) := by
  obtain ⟨⟨he1, he2, he3⟩, he4⟩ := h.2.1.2.2.2.2.1
  by_cases h1 : 0 ≤ v1 ∧ v1 ≤ 255
  · by_cases h2 : M.2.1 16 5 < 120
    · have w := (ro_w13 (M := M) (v := v1) (a := 0) (b := 255)).mpr h1
      have e3 : xm_41 M v1 = ro_sI (ro_sI M 17 (M.2.1 16 5).toNatClampNeg v1) 16 5 (M.2.1 16 5 + 1) := by grind [xm_41]
      have e4 : xf_41 M v1 = true := by grind [xf_41]
      refine Or.inr ⟨h1.1, h1.2, h2, ?_, ?_⟩
      · unfold xf_40
        rw [if_pos w, if_pos e4, e3]
        rfl
      · unfold xm_40
        rw [if_pos w, e3]
    · exact Or.inl ⟨by grind [xm_40, xm_41], by grind [xf_40, xf_41, xf_42, xf_210, xf_13, xf_195], by grind [xm_210], by grind [xp_210]⟩
  · exact Or.inl ⟨by grind [xm_40, xf_13], by grind [xf_40, xf_210, xf_13, xf_195], by grind [xm_210, xf_195], by grind [xp_210, xf_195]⟩
theorem mm_210 {M : ro_Mm} {v1 : Int32} (h1 : 0 ≤ v1 ∧ v1 ≤ 255) (h2 : ¬ M.2.1 163 14 = 120) : xm_210 M v1 = ro_sI (ro_sI M 173 ((M.2.1 163 14).toNatClampNeg) (vp_nar .byte (v1.toInt8.toInt32))) 163 14 ((M.2.1 163 14) + (1 : Int32)) ∧ xf_210 M v1 = M.2.1 163 14 + 1 := by
  unfold xm_210 xf_210
  rw [if_pos (ro_w195.mpr h1), if_neg h2, if_pos (ro_w195.mpr h1), if_neg h2]
  exact ⟨rfl, rfl⟩
theorem pp_4 {M : ro_Mm} (h : ro_Inv M) {v1 : Int32} : xp_210 (xm_40 M v1) v1 := by
  rcases mm_4 h (v1 := v1) with ⟨e1, e2, e3, e4⟩ | ⟨h0, h20, h6, e1, e2⟩
  · rw [e1]; exact e4
  · obtain ⟨⟨he1, he2, he3⟩, he4⟩ := h.2.1.2.2.2.2.1
    have hv := ro_vin (n := 120) he2 h6 (by decide)
    rw [e2]
    refine ⟨fun _ => ⟨fun _ => trivial, fun _ => ⟨?_, trivial⟩⟩, fun _ => trivial⟩
    show vp_in (M.2.1 163 14) 120
    rw [he1]
    exact hv
theorem pe_4 {M : ro_Mm} (h : ro_Inv M) {v1 : Int32} : xf_210 (xm_40 M v1) v1 = xf_40 M v1 := by
  rcases mm_4 h (v1 := v1) with ⟨e1, e2, e3, e4⟩ | ⟨h0, h20, h6, e1, e2⟩
  · rw [e1, e2]
  · obtain ⟨⟨he1, he2, he3⟩, he4⟩ := h.2.1.2.2.2.2.1
    rw [e1, e2, (mm_210 ⟨h0, h20⟩ (by show ¬ M.2.1 163 14 = 120; grind)).2]
    show M.2.1 163 14 + 1 = _
    rw [he1]
theorem pi_4 {M : ro_Mm} (h : ro_Inv M) {v1 : Int32} : ro_Inv (xm_210 (xm_40 M v1) v1) := by
  rcases mm_4 h (v1 := v1) with ⟨e1, e2, e3, e4⟩ | ⟨h0, h20, h6, e1, e2⟩
  · rw [e1, e3]; exact h
  · obtain ⟨⟨he1, he2, he3⟩, he4⟩ := h.2.1.2.2.2.2.1
    refine ⟨xl_210 (xl_40 h.1) (pp_4 h), ?_⟩
    rw [e2, (mm_210 ⟨h0, h20⟩ (by show ¬ M.2.1 163 14 = 120; grind)).1]
    refine ⟨⟨h.2.1.1, h.2.1.2.1, h.2.1.2.2.1, h.2.1.2.2.2.1, ⟨?_, ?_⟩, h.2.1.2.2.2.2.2⟩, ?_⟩
    · show M.2.1 163 14 + 1 = M.2.1 16 5 + 1 ∧ 0 ≤ M.2.1 16 5 + 1 ∧ M.2.1 16 5 + 1 ≤ 120
      exact ⟨by rw [he1], by grind, by grind⟩
    · intro i hi
      have hb := he4 i hi
      show ro_up2 M.2.1 173 (M.2.1 163 14).toNatClampNeg (vp_nar .byte (v1.toInt8.toInt32)) 173 i = vp_nar .byte ((ro_up2 M.2.1 17 (M.2.1 16 5).toNatClampNeg v1 17 i).toInt8.toInt32) ∧ 0 ≤ ro_up2 M.2.1 17 (M.2.1 16 5).toNatClampNeg v1 17 i ∧ ro_up2 M.2.1 17 (M.2.1 16 5).toNatClampNeg v1 17 i ≤ 255
      rw [he1]
      grind [ro_up2]
    · intro s hs
      have g := h.2.2 s hs
      rcases (show s = 0 ∨ s = 1 ∨ s = 2 ∨ s = 3 ∨ s = 4 ∨ s = 5 by omega) with e | e | e | e | e | e <;> rw [e] at g ⊢ <;> exact g
theorem mm_24 {M : ro_Mm} (h : ro_Inv M) : xf_147 M = (if M.2.1 5 6 < 11 then M.2.1 5 6 + 1 else 0) ∧ xm_147 M = ro_sI (ro_sI M 5 6 (if M.2.1 5 6 < 11 then M.2.1 5 6 + 1 else 0)) 11 3 (M.2.1 11 3 + 1) := by
  have e : xf_30 M 0 5 = M.2.1 5 6 := rfl
  have k3 : (3 : Int32).toNatClampNeg = 3 := by decide
  unfold xf_147 xm_147
  rw [e]
  refine ⟨rfl, ?_⟩
  by_cases h1 : M.2.1 5 6 < 11
  · rw [if_pos h1, if_pos h1]
    rfl
  · rw [if_neg h1, if_neg h1]
    rfl
theorem mm_277 {M : ro_Mm} : xf_277 M = (if M.2.1 168 1 = 11 then 0 else M.2.1 168 1 + 1) ∧ xm_277 M = ro_sI (ro_sI M 168 1 (if M.2.1 168 1 = 11 then 0 else M.2.1 168 1 + 1)) 184 3 (M.2.1 184 3 + 1) := by
  unfold xf_277 xm_277
  refine ⟨rfl, ?_⟩
  by_cases h1 : M.2.1 168 1 = 11
  · rw [if_pos h1, if_pos h1]
  · rw [if_neg h1, if_neg h1]
theorem me_24 {M : ro_Mm} (h : ro_Inv M) : (if M.2.1 168 1 = 11 then 0 else M.2.1 168 1 + 1) = (if M.2.1 5 6 < 11 then M.2.1 5 6 + 1 else 0) := by
  obtain ⟨ha1, ha2, ha3, ha4, ha5, ha6, ha7, ha8, ha9, ha10, ha11, ha12⟩ := h.2.1.1
  rw [ha7]
  grind
theorem pe_24 {M : ro_Mm} (h : ro_Inv M) : xf_277 (xm_147 M) = xf_147 M := by
  rw [(mm_24 h).1, (mm_24 h).2, mm_277.1]
  exact me_24 h
theorem pi_24 {M : ro_Mm} (h : ro_Inv M) : ro_Inv (xm_277 (xm_147 M)) := by
  obtain ⟨ha1, ha2, ha3, ha4, ha5, ha6, ha7, ha8, ha9, ha10, ha11, ha12⟩ := h.2.1.1
  have hc := h.2.1.2.2.1
  have hm := me_24 h
  have hr : 0 ≤ (if M.2.1 5 6 < 11 then M.2.1 5 6 + 1 else 0) ∧ (if M.2.1 5 6 < 11 then M.2.1 5 6 + 1 else 0) ≤ 11 := by grind
  refine ⟨xl_277 (xl_147 h.1), ?_⟩
  rw [(mm_24 h).2, mm_277.2]
  refine ⟨⟨?_, h.2.1.2.1, ?_, h.2.1.2.2.2⟩, ?_⟩
  · exact ⟨ha1, ha2, ha3, ha4, ha5, ha6, hm, hr.1, hr.2, ha10, ha11, ha12⟩
  · intro j hj
    have g := hc j hj
    have g3 := hc 3 (by decide)
    show ro_up2 M.2.1 184 3 (M.2.1 184 3 + 1) 184 j = ro_up2 M.2.1 11 3 (M.2.1 11 3 + 1) 11 j
    grind [ro_up2]
  · intro s hs
    have g := h.2.2 s hs
    rcases (show s = 0 ∨ s = 1 ∨ s = 2 ∨ s = 3 ∨ s = 4 ∨ s = 5 by omega) with e | e | e | e | e | e <;> rw [e] at g ⊢ <;> exact g
theorem mm_23 {M : ro_Mm} (h : ro_Inv M) {v1 : Int32} : (xm_146 M v1 = M ∧ xf_146 M v1 = xf_276 M v1 ∧ xm_276 M v1 = M ∧ xp_276 M v1) ∨ (0 ≤ v1 ∧ v1 < 6 ∧ xf_204 M v1 = true ∧ ¬ M.2.1 7 v1.toNatClampNeg = 20 ∧ ¬ M.2.1 8 v1.toNatClampNeg = 0 ∧ xf_146 M v1 = M.2.1 7 v1.toNatClampNeg + 1 ∧ xm_146 M v1 = ro_sI (ro_sI (ro_sI M 8 v1.toNatClampNeg (M.2.1 8 v1.toNatClampNeg - 1)) 7 v1.toNatClampNeg (M.2.1 7 v1.toNatClampNeg + 1)) 11 2 (M.2.1 11 2 + 1)) := by
  obtain ⟨ha1, ha2, ha3, ha4⟩ := h.2.1.1
  by_cases h1 : 0 ≤ v1 ∧ v1 < M.2.1 5 4
  · obtain ⟨b0, b1, b2, b3, b4, b5⟩ := iv_b_v h.2.1.2.1 h1.1 (by grind)
    have hb := h.2.1.2.1 _ b1
    have p1 : xf_29 M v1 = true := by rw [ro_w29 ha3]; exact h1
    have p2 : xf_204 M v1 = true := by rw [ro_w204 (by grind), ha1]; exact h1
    have q1 : xf_30 M v1 1 = M.2.1 8 v1.toNatClampNeg := by grind [xf_30, xf_32]
    have q0 : xf_30 M v1 0 = M.2.1 7 v1.toNatClampNeg := by grind [xf_30, xf_31]
    by_cases h2 : M.2.1 8 v1.toNatClampNeg = 0 ∨ M.2.1 7 v1.toNatClampNeg = 20
    · exact Or.inl ⟨by grind [xm_146], by grind [xf_146, xf_276], by grind [xm_276], by grind [xp_276]⟩
    · have n0 : ¬ v1 < 0 := by grind
      have n6 : ¬ 6 ≤ v1 := by grind
      refine Or.inr ⟨h1.1, by grind, p2, by grind, by grind, by grind [xf_146], ?_⟩
      unfold xm_146
      rw [if_pos p1, q1, q0, if_neg (by grind), if_pos (by grind)]
      have e1 : xm_33 M v1 1 (M.2.1 8 v1.toNatClampNeg - 1) = ro_sI M 8 v1.toNatClampNeg (M.2.1 8 v1.toNatClampNeg - 1) := by
        unfold xm_33 xm_17
        rw [if_neg (by decide), if_pos rfl, if_neg n0, if_neg n6]
      have e2 : ∀ M2 : ro_Mm, ∀ w : Int32, xm_33 M2 v1 0 w = ro_sI M2 7 v1.toNatClampNeg w := by
        intro M2 w
        unfold xm_33 xm_16
        rw [if_pos rfl, if_neg n0, if_neg n6]
      rw [e1, e2]
      rfl
  · have p1 : xf_29 M v1 = false := by grind [xf_29]
    have p2 : xf_204 M v1 = false := by grind [xf_204, xf_195]
    exact Or.inl ⟨by grind [xm_146], by grind [xf_146, xf_276], by grind [xm_276], by grind [xp_276]⟩
theorem mm_276 {M : ro_Mm} {v1 : Int32} (h : xf_204 M v1 = true) (h1 : ¬ M.2.1 165 v1.toNatClampNeg = 0) (h2 : ¬ M.2.1 164 v1.toNatClampNeg = 20) : xf_276 M v1 = M.2.1 164 v1.toNatClampNeg + 1 ∧ xm_276 M v1 = ro_sI (ro_sI (ro_sI M 165 v1.toNatClampNeg (M.2.1 165 v1.toNatClampNeg - 1)) 164 v1.toNatClampNeg (M.2.1 164 v1.toNatClampNeg + 1)) 184 2 (M.2.1 184 2 + 1) := by
  unfold xf_276 xm_276
  rw [if_pos h, if_neg h1, if_neg h2, if_pos h, if_neg h1, if_neg h2]
  exact ⟨rfl, rfl⟩
theorem pp_23 {M : ro_Mm} (h : ro_Inv M) {v1 : Int32} : xp_276 (xm_146 M v1) v1 := by
  rcases mm_23 h (v1 := v1) with ⟨e1, e2, e3, e4⟩ | ⟨g0, g6, g1, g2, g3, e1, e2⟩
  · rw [e1]; exact e4
  · have hv := ro_vin (n := 6) g0 g6 (by decide)
    unfold xp_276
    grind
theorem pe_23 {M : ro_Mm} (h : ro_Inv M) {v1 : Int32} : xf_276 (xm_146 M v1) v1 = xf_146 M v1 := by
  rcases mm_23 h (v1 := v1) with ⟨e1, e2, e3, e4⟩ | ⟨g0, g6, g1, g2, g3, e1, e2⟩
  · rw [e1, e2]
  · obtain ⟨b0, b1, b2, b3, b4, b5⟩ := iv_b_v h.2.1.2.1 g0 g6
    rw [e1, e2, (mm_276 (by exact g1) (by show ¬ M.2.1 165 v1.toNatClampNeg = 0; rw [b3]; exact g3) (by show ¬ M.2.1 164 v1.toNatClampNeg = 20; rw [b2]; exact g2)).1]
    show M.2.1 164 v1.toNatClampNeg + 1 = _
    rw [b2]
theorem pi_23 {M : ro_Mm} (h : ro_Inv M) {v1 : Int32} : ro_Inv (xm_276 (xm_146 M v1) v1) := by
  rcases mm_23 h (v1 := v1) with ⟨e1, e2, e3, e4⟩ | ⟨g0, g6, g1, g2, g3, e1, e2⟩
  · rw [e1, e3]; exact h
  · obtain ⟨b0, b1, b2, b3, b4, b5⟩ := iv_b_v h.2.1.2.1 g0 g6
    have hv := h.2.1.2.1 _ b1
    have hc := h.2.1.2.2.1
    refine ⟨xl_276 (xl_146 h.1) (pp_23 h), ?_⟩
    rw [e2, (mm_276 (by exact g1) (by show ¬ M.2.1 165 v1.toNatClampNeg = 0; rw [b3]; exact g3) (by show ¬ M.2.1 164 v1.toNatClampNeg = 20; rw [b2]; exact g2)).2]
    refine ⟨⟨h.2.1.1, ?_, ?_, h.2.1.2.2.2⟩, ?_⟩
    · intro i hi
      have hb := h.2.1.2.1 i hi
      refine ⟨?_, ?_, hb.2.2⟩
      · show ro_up2 M.2.1 164 v1.toNatClampNeg (M.2.1 164 v1.toNatClampNeg + 1) 164 i = ro_up2 M.2.1 7 v1.toNatClampNeg (M.2.1 7 v1.toNatClampNeg + 1) 7 i ∧ 0 ≤ ro_up2 M.2.1 7 v1.toNatClampNeg (M.2.1 7 v1.toNatClampNeg + 1) 7 i ∧ ro_up2 M.2.1 7 v1.toNatClampNeg (M.2.1 7 v1.toNatClampNeg + 1) 7 i ≤ 20
        grind [ro_up2]
      · show ro_up2 M.2.1 165 v1.toNatClampNeg (M.2.1 165 v1.toNatClampNeg - 1) 165 i = ro_up2 M.2.1 8 v1.toNatClampNeg (M.2.1 8 v1.toNatClampNeg - 1) 8 i ∧ 0 ≤ ro_up2 M.2.1 8 v1.toNatClampNeg (M.2.1 8 v1.toNatClampNeg - 1) 8 i ∧ ro_up2 M.2.1 8 v1.toNatClampNeg (M.2.1 8 v1.toNatClampNeg - 1) 8 i ≤ 20
        grind [ro_up2]
    · intro j hj
      have g := hc j hj
      have g3 := hc 2 (by decide)
      show ro_up2 M.2.1 184 2 (M.2.1 184 2 + 1) 184 j = ro_up2 M.2.1 11 2 (M.2.1 11 2 + 1) 11 j
      grind [ro_up2]
    · intro s hs
      have g := h.2.2 s hs
      rcases (show s = 0 ∨ s = 1 ∨ s = 2 ∨ s = 3 ∨ s = 4 ∨ s = 5 by omega) with e | e | e | e | e | e <;> rw [e] at g ⊢ <;> exact g
end PAIRS

