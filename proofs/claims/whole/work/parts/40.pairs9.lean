/-! pairs of calls, on: a row of bytes, hands (by program, wip/whole/gen40.py) -/
section PAIRS9
variable {X : ro_Sx}
theorem xp_235_t {M : ro_Mm} {v : Int32} (hv : ro_bs v = true) : xp_235 M v := by
  obtain ⟨s1, s2, s3⟩ := ro_sx hv
  unfold xp_235
  grind
/-- it holds no bytes -/
theorem by_no {M : ro_Mm} (h : ro_Inv M) {v : Int32} (hv : ro_bs v = true) (hn : ¬ xf_22 M (ro_sc v) = true) : xf_235 M v < 0 ∧ xf_235 M v = xf_65 M (ro_sc v) := by
  have S := sh_of h hv
  have e : ¬ M.2.1 (ro_sc v) 1 = 0 := by grind [xf_22]
  rcases S with q | q | q
  · exact ⟨by grind [xf_235], by grind [xf_235, xf_65, xf_21]⟩
  · have q1 := q.1
    have q2 := q.2
    exact ⟨by grind [xf_235], by grind [xf_235, xf_65, xf_21]⟩
  · have q1 := q.1
    have q2 := q.2.1
    have q3 := q.2.2.1
    exact ⟨by grind [xf_235], by grind [xf_235, xf_65, xf_21]⟩
/-- it does: its length, its bytes -/
theorem by_yes {M : ro_Mm} (h : ro_Inv M) {v : Int32} (hv : ro_bs v = true) (hy : xf_22 M (ro_sc v) = true) : xf_235 M v = 0 ∧ ∃ z, z ≤ 60 ∧ M.2.1 (ro_sc v) 2 = nI z ∧ M.2.1 191 v.toNatClampNeg = nI z ∧ ∀ k, k < z → xf_25 M (ro_sc v) (nI k) = xf_238 M v (nI k) ∧ xp_238 M v (nI k) := by
  have S := sh_of h hv
  have e : M.2.1 (ro_sc v) 1 = 0 := by grind [xf_22]
  rcases S with q | q | q
  · exact absurd q.1 (by rw [e]; decide)
  · exact absurd q.1 (by rw [e]; decide)
  · obtain ⟨q1, q2, q3, q4, q5, q6, q7⟩ := q
    refine ⟨by grind [xf_235], (M.2.1 (ro_sc v) 2).toNatClampNeg, ro_cle (n := 60) q5 q6 (by decide), ro_nI_of q5, q4.trans (ro_nI_of q5), fun k hk => ?_⟩
    have z6 := ro_cle (n := 60) q5 q6 (by decide)
    obtain ⟨k1, k2⟩ := ro_60 (v := v) (i := nI k) (ro_bs_t hv) ⟨nI_le (a := 0) (b := k) (by omega) (by omega), nI_lt (a := k) (b := 60) (by omega) (by omega)⟩
    have q8 : (nI k).toNatClampNeg = k := nI_clamp (by omega)
    have n0 : ¬ nI k < 0 := nI_pos (by omega)
    have n1 : ¬ M.2.1 (ro_sc v) 2 ≤ nI k := by
      rw [ro_nI_of q5]
      exact nI_ge hk (by omega)
    have n2 : ¬ (60 : Int32) ≤ nI k := nI_ge (a := k) (b := 60) (by omega) (by omega)
    refine ⟨?_, k2, trivial⟩
    unfold xf_25 xf_26 xf_238
    rw [if_neg n0, if_neg n1, if_neg n2, k1, q8, q7 k hk]
end PAIRS9
