/-! pairs of calls, on (by program, wip/whole/gen25.py) -/
section PAIRS2
variable {X : ro_Sx}
theorem mm_30 {M : ro_Mm} (h : ro_Inv M) {v1 : Int32} : (xm_160 M v1 = M ∧ xf_160 M v1 = xf_282 M v1 ∧ xm_282 M v1 = M ∧ xp_282 M v1) ∨ (0 ≤ v1 ∧ v1 ≤ 7 ∧ M.2.1 59 2 < 50 ∧ xf_160 M v1 = M.2.1 59 2 + 1 - 1 ∧ xm_160 M v1 = ro_sI (ro_sI M 60 (M.2.1 59 2).toNatClampNeg v1) 59 2 (M.2.1 59 2 + 1)) := by
  obtain ⟨⟨he1, he2, he3⟩, he4⟩ := h.2.1.2.2.2.2.2.2.2
  by_cases h1 : 0 ≤ v1 ∧ v1 ≤ 7
  · have w : xf_161 M v1 = true := by grind [xf_161]
    by_cases h2 : M.2.1 59 2 < 50
    · have e3 : xm_162 M v1 = ro_sI (ro_sI M 60 (M.2.1 59 2).toNatClampNeg v1) 59 2 (M.2.1 59 2 + 1) := by grind [xm_162]
      have e4 : xf_162 M v1 = true := by grind [xf_162]
      refine Or.inr ⟨h1.1, h1.2, h2, ?_, ?_⟩
      · unfold xf_160
        rw [if_pos w, if_pos e4, e3]
        rfl
      · unfold xm_160
        rw [if_pos w, e3]
    · exact Or.inl ⟨by grind [xm_160, xm_162], by grind [xf_160, xf_162, xf_282, xf_161, xf_195], by grind [xm_282], by grind [xp_282]⟩
  · exact Or.inl ⟨by grind [xm_160, xf_161], by grind [xf_160, xf_282, xf_161, xf_195], by grind [xm_282, xf_195], by grind [xp_282, xf_195]⟩
theorem mm_282 {M : ro_Mm} {v1 : Int32} (h1 : 0 ≤ v1 ∧ v1 ≤ 7) (h2 : ¬ M.2.1 163 49 = 50) : xm_282 M v1 = ro_sI (ro_sI M 188 ((M.2.1 163 49).toNatClampNeg) v1) 163 49 ((M.2.1 163 49) + (1 : Int32)) ∧ xf_282 M v1 = M.2.1 163 49 + 1 - 1 := by
  unfold xm_282 xf_282
  rw [if_pos (ro_w195.mpr h1), if_neg h2, if_pos (ro_w195.mpr h1), if_neg h2]
  exact ⟨rfl, rfl⟩
theorem pp_30 {M : ro_Mm} (h : ro_Inv M) {v1 : Int32} : xp_282 (xm_160 M v1) v1 := by
  rcases mm_30 h (v1 := v1) with ⟨e1, e2, e3, e4⟩ | ⟨h0, h20, h6, e1, e2⟩
  · rw [e1]; exact e4
  · obtain ⟨⟨he1, he2, he3⟩, he4⟩ := h.2.1.2.2.2.2.2.2.2
    have hv := ro_vin (n := 50) he2 h6 (by decide)
    rw [e2]
    refine ⟨fun _ => ⟨fun _ => trivial, fun _ => ⟨?_, trivial⟩⟩, fun _ => trivial⟩
    show vp_in (M.2.1 163 49) 50
    rw [he1]
    exact hv
theorem pe_30 {M : ro_Mm} (h : ro_Inv M) {v1 : Int32} : xf_282 (xm_160 M v1) v1 = xf_160 M v1 := by
  rcases mm_30 h (v1 := v1) with ⟨e1, e2, e3, e4⟩ | ⟨h0, h20, h6, e1, e2⟩
  · rw [e1, e2]
  · obtain ⟨⟨he1, he2, he3⟩, he4⟩ := h.2.1.2.2.2.2.2.2.2
    rw [e1, e2, (mm_282 ⟨h0, h20⟩ (by show ¬ M.2.1 163 49 = 50; grind)).2]
    show M.2.1 163 49 + 1 - 1 = _
    rw [he1]
theorem pi_30 {M : ro_Mm} (h : ro_Inv M) {v1 : Int32} : ro_Inv (xm_282 (xm_160 M v1) v1) := by
  rcases mm_30 h (v1 := v1) with ⟨e1, e2, e3, e4⟩ | ⟨h0, h20, h6, e1, e2⟩
  · rw [e1, e3]; exact h
  · obtain ⟨⟨he1, he2, he3⟩, he4, he5, he6⟩ := h.2.1.2.2.2.2.2.2.2
    refine ⟨xl_282 (xl_160 h.1) (pp_30 h), ?_⟩
    rw [e2, (mm_282 ⟨h0, h20⟩ (by show ¬ M.2.1 163 49 = 50; grind)).1]
    refine ⟨⟨h.2.1.1, h.2.1.2.1, h.2.1.2.2.1, h.2.1.2.2.2.1, h.2.1.2.2.2.2.1, h.2.1.2.2.2.2.2.1, h.2.1.2.2.2.2.2.2.1, ⟨?_, he4, ?_, he6⟩⟩, ?_⟩
    · show M.2.1 163 49 + 1 = M.2.1 59 2 + 1 ∧ 0 ≤ M.2.1 59 2 + 1 ∧ M.2.1 59 2 + 1 ≤ 50
      exact ⟨by rw [he1], by grind, by grind⟩
    · intro i hi
      have hb := he5 i hi
      show ro_up2 M.2.1 188 (M.2.1 163 49).toNatClampNeg v1 188 i = ro_up2 M.2.1 60 (M.2.1 59 2).toNatClampNeg v1 60 i ∧ 0 ≤ ro_up2 M.2.1 60 (M.2.1 59 2).toNatClampNeg v1 60 i ∧ ro_up2 M.2.1 60 (M.2.1 59 2).toNatClampNeg v1 60 i ≤ 7
      rw [he1]
      grind [ro_up2]
    · intro s hs
      have g := h.2.2 s hs
      have e0 : ∀ x : Int32, x < M.2.1 59 2 → x < M.2.1 59 2 + 1 := by grind
      rcases (show s = 0 ∨ s = 1 ∨ s = 2 ∨ s = 3 ∨ s = 4 ∨ s = 5 by omega) with e | e | e | e | e | e <;> rw [e] at g ⊢ <;> rcases g with g | g | g
      · exact Or.inl g
      · exact Or.inr (Or.inl ⟨g.1, g.2.1, g.2.2.1, e0 _ g.2.2.2⟩)
      · exact Or.inr (Or.inr g)
      · exact Or.inl g
      · exact Or.inr (Or.inl ⟨g.1, g.2.1, g.2.2.1, e0 _ g.2.2.2⟩)
      · exact Or.inr (Or.inr g)
      · exact Or.inl g
      · exact Or.inr (Or.inl ⟨g.1, g.2.1, g.2.2.1, e0 _ g.2.2.2⟩)
      · exact Or.inr (Or.inr g)
      · exact Or.inl g
      · exact Or.inr (Or.inl ⟨g.1, g.2.1, g.2.2.1, e0 _ g.2.2.2⟩)
      · exact Or.inr (Or.inr g)
      · exact Or.inl g
      · exact Or.inr (Or.inl ⟨g.1, g.2.1, g.2.2.1, e0 _ g.2.2.2⟩)
      · exact Or.inr (Or.inr g)
      · exact Or.inl g
      · exact Or.inr (Or.inl ⟨g.1, g.2.1, g.2.2.1, e0 _ g.2.2.2⟩)
      · exact Or.inr (Or.inr g)
theorem ro_sx {v : Int32} (h : ro_bs v = true) : vp_in v 6 ∧ v.toNatClampNeg < 6 ∧ ro_sc v = 23 + 2 * v.toNatClampNeg := by
  obtain ⟨h1, h2⟩ := ro_bs_t h
  have g := ro_clt (n := 6) h1 h2 (by decide)
  refine ⟨ro_vin (n := 6) h1 h2 (by decide), g, ?_⟩
  unfold ro_sc
  omega
theorem ro_w198 {M : ro_Mm} {v : Int32} : xf_198 M v = ro_bs v := by grind [xf_198, xf_195, ro_bs]
theorem ro_60 {v i : Int32} (hv : 0 ≤ v ∧ v < 6) (hi : 0 ≤ i ∧ i < 60) : ((60 : Int32) * v + i).toNatClampNeg = 60 * v.toNatClampNeg + i.toNatClampNeg ∧ vp_in ((60 : Int32) * v + i) 360 := by
  have e1 := ro_nI_of hv.1
  have e2 := ro_nI_of hi.1
  have g1 := ro_clt (n := 6) hv.1 hv.2 (by decide)
  have g2 := ro_clt (n := 60) hi.1 hi.2 (by decide)
  have e3 : (60 : Int32) * v + i = nI (60 * v.toNatClampNeg + i.toNatClampNeg) := by
    rcases (show v.toNatClampNeg = 0 ∨ v.toNatClampNeg = 1 ∨ v.toNatClampNeg = 2 ∨ v.toNatClampNeg = 3 ∨ v.toNatClampNeg = 4 ∨ v.toNatClampNeg = 5 by omega) with e | e | e | e | e | e <;> rw [e] at e1 ⊢ <;> rw [e1, ← nI_add] <;> exact congrArg (fun z => _ + z) e2
  rw [e3, nI_clamp (by omega)]
  refine ⟨rfl, ?_⟩
  unfold vp_in
  exact nI_in (by omega) (by decide)
theorem pe_36 {M : ro_Mm} (h : ro_Inv M) {v1 v2 : Int32} : xf_304 M v1 v2 = xf_183 M v1 v2 ∧ xp_304 M v1 v2 := by
  by_cases h1 : ro_bs v1 = true
  · obtain ⟨s1, s2, s3⟩ := ro_sx h1
    have g := h.2.2 _ s2
    unfold iv_sh at g
    rw [← s3, show 24 + 2 * v1.toNatClampNeg = ro_sc v1 + 1 by omega] at g
    rcases g with g | g | g
    · have w : xf_303 M v1 v2 = -11 := by grind [xf_303, ro_w198]
      have w2 : xf_180 M (ro_sc v1) = false := by grind [xf_180]
      exact ⟨by grind [xf_304, xf_183], by grind [xp_304, xp_303]⟩
    · have w : xf_303 M v1 v2 = -12 := by grind [xf_303, ro_w198]
      have w2 : xf_180 M (ro_sc v1) = false := by grind [xf_180]
      exact ⟨by grind [xf_304, xf_183], by grind [xp_304, xp_303]⟩
    · obtain ⟨g1, g2, g3, g4, g5, g6, g7⟩ := g
      have w2 : xf_180 M (ro_sc v1) = true := by grind [xf_180]
      by_cases h2 : 0 ≤ v2 ∧ v2 < M.2.1 (ro_sc v1) 2
      · obtain ⟨k1, k2⟩ := ro_60 (ro_bs_t h1) ⟨h2.1, show v2 < 60 by grind⟩
        have k4 : v2.toNatClampNeg < (M.2.1 (ro_sc v1) 2).toNatClampNeg := by
          have a := Int32.lt_iff_toInt_lt.mp h2.2
          have b := Int32.le_iff_toInt_le.mp h2.1
          have c : (0 : Int32).toInt = 0 := by decide
          show v2.toInt.toNat < (M.2.1 (ro_sc v1) 2).toInt.toNat
          omega
        have k3 := g7 v2.toNatClampNeg k4
        have w : xf_303 M v1 v2 = 0 := by grind [xf_303, ro_w198, xf_195]
        have w3 : xf_13 M v2 0 (xf_24 M (ro_sc v1) - 1) = true := by grind [xf_13, xf_24]
        have w4 : xf_26 M (ro_sc v1) v2 = M.2.2.1 (ro_sc v1 + 1) v2.toNatClampNeg := by grind [xf_26]
        refine ⟨?_, by grind [xp_304, xp_303]⟩
        unfold xf_304 xf_183
        rw [w, if_pos h1, if_pos w2, if_pos w3, w4, k1, k3]
        rfl
      · have w : xf_303 M v1 v2 = -13 := by grind [xf_303, ro_w198, xf_195]
        have w3 : xf_13 M v2 0 (xf_24 M (ro_sc v1) - 1) = false := by grind [xf_13, xf_24]
        exact ⟨by grind [xf_304, xf_183], by grind [xp_304, xp_303]⟩
  · have w : xf_303 M v1 v2 = -1 := by grind [xf_303, ro_w198]
    exact ⟨by grind [xf_304, xf_183], by grind [xp_304, xp_303, ro_w198]⟩
theorem pp_36 {M : ro_Mm} (h : ro_Inv M) {v1 v2 : Int32} : xp_304 M v1 v2 := (pe_36 h).2
end PAIRS2

