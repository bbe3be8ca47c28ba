/-! pairs of calls: the class's, the reference's -/
section PAIRS
variable {X : ro_Sx}
theorem pr_I {yc ym : Nat} {as : List Value} {K1 K2 : Nat} {fc fm : ro_Mm → Int32} {gc gm : ro_Mm → ro_Mm} (hK1 : K1 ≤ 2000) (hK2 : K2 ≤ 2000)
    (hc : ∀ M, ro_Inv M → ro_cwp X K1 yc (.ref 4 :: as) M (fun v M2 => v = some (.int (fc M)) ∧ M2 = gc M))
    (hl : ∀ M, ro_Inv M → ro_lay (gc M))
    (hm : ∀ M, ro_Inv M → ro_cwp X K2 ym (.ref 163 :: as) (gc M) (fun v M2 => v = some (.int (fm (gc M))) ∧ M2 = gm (gc M)))
    (he : ∀ M, ro_Inv M → fm (gc M) = fc M) (hi : ∀ M, ro_Inv M → ro_Inv (gm (gc M))) : ro_eqI ro_Inv X yc ym as := by
  intro M hM
  refine ro_cwp_up hK1 ?_ (hc M hM)
  rintro v M1 ⟨e1, e2⟩
  rw [e1, e2]
  refine ⟨hl M hM, fc M, rfl, ?_⟩
  refine ro_cwp_up hK2 ?_ (hm M hM)
  rintro v M2 ⟨e3, e4⟩
  rw [e3, e4, he M hM]
  exact ⟨rfl, hi M hM⟩
theorem pr_J {yc ym : Nat} {as : List Value} {K1 K2 : Nat} {fc fm : ro_Mm → Int64} {gc gm : ro_Mm → ro_Mm} (hK1 : K1 ≤ 2000) (hK2 : K2 ≤ 2000)
    (hc : ∀ M, ro_Inv M → ro_cwp X K1 yc (.ref 4 :: as) M (fun v M2 => v = some (.long (fc M)) ∧ M2 = gc M))
    (hl : ∀ M, ro_Inv M → ro_lay (gc M))
    (hm : ∀ M, ro_Inv M → ro_cwp X K2 ym (.ref 163 :: as) (gc M) (fun v M2 => v = some (.long (fm (gc M))) ∧ M2 = gm (gc M)))
    (he : ∀ M, ro_Inv M → fm (gc M) = fc M) (hi : ∀ M, ro_Inv M → ro_Inv (gm (gc M))) : ro_eqJ ro_Inv X yc ym as := by
  intro M hM
  refine ro_cwp_up hK1 ?_ (hc M hM)
  rintro v M1 ⟨e1, e2⟩
  rw [e1, e2]
  refine ⟨hl M hM, fc M, rfl, ?_⟩
  refine ro_cwp_up hK2 ?_ (hm M hM)
  rintro v M2 ⟨e3, e4⟩
  rw [e3, e4, he M hM]
  exact ⟨rfl, hi M hM⟩
/-- in a row of six -/
theorem iv_b_v {I : Nat → Nat → Int32} (h : iv_b I) {v : Int32} (h0 : 0 ≤ v) (h6 : v < 6) : vp_in v 6 ∧ v.toNatClampNeg < 6 ∧ I 164 v.toNatClampNeg = I 7 v.toNatClampNeg ∧ I 165 v.toNatClampNeg = I 8 v.toNatClampNeg ∧ I 166 v.toNatClampNeg = I 9 v.toNatClampNeg ∧ I 167 v.toNatClampNeg = I 10 v.toNatClampNeg := by
  have g := ro_clt (n := 6) h0 h6 (by decide)
  obtain ⟨b1, b2, b3, b4⟩ := h _ g
  exact ⟨ro_vin (n := 6) h0 h6 (by decide), g, b1.1, b2.1, b3.1, b4.1⟩
theorem pk_4 : ((4 : Int32) - 4).toNatClampNeg = 0 := by decide
theorem pk_5 : ((5 : Int32) - 4).toNatClampNeg = 1 := by decide
theorem pk_6 : ((6 : Int32) - 4).toNatClampNeg = 2 := by decide
theorem pv_4 : vp_in ((4 : Int32) - 4) 3 := by unfold vp_in; decide
theorem pv_5 : vp_in ((5 : Int32) - 4) 3 := by unfold vp_in; decide
theorem pv_6 : vp_in ((6 : Int32) - 4) 3 := by unfold vp_in; decide
theorem pe_3 {M : ro_Mm} (h : ro_Inv M) {v1 v2 : Int32} : xf_208 M v1 v2 = xf_36 M v1 v2 := by
  obtain ⟨ha1, ha2, ha3, ha4, ha5, ha6, ha7, ha8, ha9, ha10, ha11, ha12⟩ := h.2.1.1
  have c4 := pk_4
  have c5 := pk_5
  have c6 := pk_6
  by_cases h1 : 0 ≤ v1 ∧ v1 < M.2.1 5 4
  · obtain ⟨b0, b1, b2, b3, b4, b5⟩ := iv_b_v h.2.1.2.1 h1.1 (by grind)
    by_cases q0 : v2 = 0
    · rw [q0]; grind (splits := 40) [xf_208, xf_204, xf_195, xf_209, xf_203, xf_207, xf_36, xf_28, xf_30, xf_29, xf_31, xf_32, xf_37, xf_38, xf_39, ro_min]
    by_cases q1 : v2 = 1
    · rw [q1]; grind (splits := 40) [xf_208, xf_204, xf_195, xf_209, xf_203, xf_207, xf_36, xf_28, xf_30, xf_29, xf_31, xf_32, xf_37, xf_38, xf_39, ro_min]
    by_cases q2 : v2 = 2
    · rw [q2]; grind (splits := 40) [xf_208, xf_204, xf_195, xf_209, xf_203, xf_207, xf_36, xf_28, xf_30, xf_29, xf_31, xf_32, xf_37, xf_38, xf_39, ro_min]
    by_cases q3 : v2 = 3
    · rw [q3]; grind (splits := 40) [xf_208, xf_204, xf_195, xf_209, xf_203, xf_207, xf_36, xf_28, xf_30, xf_29, xf_31, xf_32, xf_37, xf_38, xf_39, ro_min]
    by_cases q4 : v2 = 4
    · rw [q4]; grind (splits := 40) [xf_208, xf_204, xf_195, xf_209, xf_203, xf_207, xf_36, xf_28, xf_30, xf_29, xf_31, xf_32, xf_37, xf_38, xf_39, ro_min]
    by_cases q5 : v2 = 5
    · rw [q5]; grind (splits := 40) [xf_208, xf_204, xf_195, xf_209, xf_203, xf_207, xf_36, xf_28, xf_30, xf_29, xf_31, xf_32, xf_37, xf_38, xf_39, ro_min]
    by_cases q6 : v2 = 6
    · rw [q6]; grind (splits := 40) [xf_208, xf_204, xf_195, xf_209, xf_203, xf_207, xf_36, xf_28, xf_30, xf_29, xf_31, xf_32, xf_37, xf_38, xf_39, ro_min]
    by_cases q7 : v2 = 7
    · rw [q7]; grind (splits := 40) [xf_208, xf_204, xf_195, xf_209, xf_203, xf_207, xf_36, xf_28, xf_30, xf_29, xf_31, xf_32, xf_37, xf_38, xf_39, ro_min]
    by_cases q8 : v2 = 8
    · rw [q8]; grind (splits := 40) [xf_208, xf_204, xf_195, xf_209, xf_203, xf_207, xf_36, xf_28, xf_30, xf_29, xf_31, xf_32, xf_37, xf_38, xf_39, ro_min]
    grind (splits := 40) [xf_208, xf_204, xf_195, xf_209, xf_203, xf_207, xf_36, xf_28, xf_30, xf_29, xf_31, xf_32, xf_37, xf_38, xf_39, ro_min]
  · by_cases h2 : v1 = 0
    · by_cases q4 : v2 = 4
      · rw [q4]; grind (splits := 40) [xf_208, xf_204, xf_195, xf_209, xf_203, xf_207, xf_36, xf_28, xf_30, xf_29, xf_31, xf_32, xf_37, xf_38, xf_39, ro_min]
      by_cases q5 : v2 = 5
      · rw [q5]; grind (splits := 40) [xf_208, xf_204, xf_195, xf_209, xf_203, xf_207, xf_36, xf_28, xf_30, xf_29, xf_31, xf_32, xf_37, xf_38, xf_39, ro_min]
      by_cases q6 : v2 = 6
      · rw [q6]; grind (splits := 40) [xf_208, xf_204, xf_195, xf_209, xf_203, xf_207, xf_36, xf_28, xf_30, xf_29, xf_31, xf_32, xf_37, xf_38, xf_39, ro_min]
      grind (splits := 40) [xf_208, xf_204, xf_195, xf_209, xf_203, xf_207, xf_36, xf_28, xf_30, xf_29, xf_31, xf_32, xf_37, xf_38, xf_39, ro_min]
    · grind (splits := 40) [xf_208, xf_204, xf_195, xf_209, xf_203, xf_207, xf_36, xf_28, xf_30, xf_29, xf_31, xf_32, xf_37, xf_38, xf_39, ro_min]
theorem pp_3 {M : ro_Mm} (h : ro_Inv M) {v1 v2 : Int32} : xp_208 M v1 v2 := by
  obtain ⟨ha1, ha2, ha3, ha4, ha5, ha6, ha7, ha8, ha9, ha10, ha11, ha12⟩ := h.2.1.1
  have c4 := pv_4
  have c5 := pv_5
  have c6 := pv_6
  by_cases h1 : 0 ≤ v1 ∧ v1 < M.2.1 5 4
  · obtain ⟨b0, b1, b2, b3, b4, b5⟩ := iv_b_v h.2.1.2.1 h1.1 (by grind)
    by_cases q0 : v2 = 0
    · rw [q0]; grind (splits := 40) [xp_208, xf_204, xf_195, xf_203, xp_207, xp_209]
    by_cases q1 : v2 = 1
    · rw [q1]; grind (splits := 40) [xp_208, xf_204, xf_195, xf_203, xp_207, xp_209]
    by_cases q2 : v2 = 2
    · rw [q2]; grind (splits := 40) [xp_208, xf_204, xf_195, xf_203, xp_207, xp_209]
    by_cases q3 : v2 = 3
    · rw [q3]; grind (splits := 40) [xp_208, xf_204, xf_195, xf_203, xp_207, xp_209]
    by_cases q4 : v2 = 4
    · rw [q4]; grind (splits := 40) [xp_208, xf_204, xf_195, xf_203, xp_207, xp_209]
    by_cases q5 : v2 = 5
    · rw [q5]; grind (splits := 40) [xp_208, xf_204, xf_195, xf_203, xp_207, xp_209]
    by_cases q6 : v2 = 6
    · rw [q6]; grind (splits := 40) [xp_208, xf_204, xf_195, xf_203, xp_207, xp_209]
    by_cases q7 : v2 = 7
    · rw [q7]; grind (splits := 40) [xp_208, xf_204, xf_195, xf_203, xp_207, xp_209]
    by_cases q8 : v2 = 8
    · rw [q8]; grind (splits := 40) [xp_208, xf_204, xf_195, xf_203, xp_207, xp_209]
    grind (splits := 40) [xp_208, xf_204, xf_195, xf_203, xp_207, xp_209]
  · by_cases h2 : v1 = 0
    · by_cases q4 : v2 = 4
      · rw [q4]; grind (splits := 40) [xp_208, xf_204, xf_195, xf_203, xp_207, xp_209]
      by_cases q5 : v2 = 5
      · rw [q5]; grind (splits := 40) [xp_208, xf_204, xf_195, xf_203, xp_207, xp_209]
      by_cases q6 : v2 = 6
      · rw [q6]; grind (splits := 40) [xp_208, xf_204, xf_195, xf_203, xp_207, xp_209]
      grind (splits := 40) [xp_208, xf_204, xf_195, xf_203, xp_207, xp_209]
    · grind (splits := 40) [xp_208, xf_204, xf_195, xf_203, xp_207, xp_209]
theorem pr_3 (a1 : Int32) (a2 : Int32) : ro_eqI ro_Inv X 36 208 [.int a1, .int a2] :=
  pr_I (fc := fun M => xf_36 M a1 a2) (fm := fun M => xf_208 M a1 a2) (gc := fun M => M) (gm := fun M => M) (by decide) (by decide) (fun _ h => xs_36 h.1) (fun _ h => h.1) (fun _ h => xs_208 h.1 (pp_3 h)) (fun _ h => pe_3 h) (fun _ h => h)
theorem pe_25 {M : ro_Mm} (h : ro_Inv M) {v1 : Int32} : xf_278 M v1 = xf_148 M v1 := by
  by_cases h1 : 0 ≤ v1 ∧ v1 < 4
  · have g := ro_clt (n := 4) h1.1 h1.2 (by decide)
    have e := h.2.1.2.2.1 _ g
    grind (splits := 40) [xf_278, xf_148, xf_195, xf_13, xf_149]
  · grind (splits := 40) [xf_278, xf_148, xf_195, xf_13, xf_149]
theorem pp_25 {M : ro_Mm} (_h : ro_Inv M) {v1 : Int32} : xp_278 M v1 := by
  by_cases h1 : 0 ≤ v1 ∧ v1 < 4
  · have g := ro_vin (n := 4) h1.1 h1.2 (by decide)
    grind [xp_278, xf_195]
  · grind [xp_278, xf_195]
theorem pr_25 (a1 : Int32) : ro_eqI ro_Inv X 148 278 [.int a1] :=
  pr_I (fc := fun M => xf_148 M a1) (fm := fun M => xf_278 M a1) (gc := fun M => M) (gm := fun M => M) (by decide) (by decide) (fun _ h => xs_148 h.1) (fun _ h => h.1) (fun _ h => xs_278 h.1 (pp_25 h)) (fun _ h => pe_25 h) (fun _ h => h)
theorem pe_32 {M : ro_Mm} (h : ro_Inv M) {v1 : Int32} : xf_281 M v1 = xf_173 M v1 := by
  have e1 := h.2.1.2.2.2.2.2.2.2.2.1.1
  by_cases h1 : 0 ≤ v1 ∧ v1 < 24
  · have g := ro_clt (n := 24) h1.1 h1.2 (by decide)
    have e := h.2.1.2.2.2.2.2.2.2.2.2.2 _ g
    grind (splits := 40) [xf_281, xf_173, xf_174]
  · grind (splits := 40) [xf_281, xf_173, xf_174]
theorem pr_32 (a1 : Int32) : ro_eqI ro_Inv X 173 281 [.int a1] :=
  pr_I (fc := fun M => xf_173 M a1) (fm := fun M => xf_281 M a1) (gc := fun M => M) (gm := fun M => M) (by decide) (by decide) (fun _ h => xs_173 h.1) (fun _ h => h.1) (fun _ h => xs_281 h.1) (fun _ h => pe_32 h) (fun _ h => h)
end PAIRS
