/-! methods without loops: what they answer, what they leave, the rows that show it (by program, wip/whole/walk.py) -/
/-- RefusedOnce.mint(I)I -/
def xf_146 (M : ro_Mm) (v1 : Int32) : Int32 := (if (xf_29 M v1) then (if (xf_30 M v1 (1 : Int32)) < (1 : Int32) then (-5 : Int32) else (if (xf_30 M v1 (0 : Int32)) < (20 : Int32) then ((xf_30 M v1 (0 : Int32)) + (1 : Int32)) else (-5 : Int32))) else (-1 : Int32))
def xm_146 (M : ro_Mm) (v1 : Int32) : ro_Mm := (if (xf_29 M v1) then (if (xf_30 M v1 (1 : Int32)) < (1 : Int32) then M else (if (xf_30 M v1 (0 : Int32)) < (20 : Int32) then (xm_145 (xm_33 (xm_33 M v1 (1 : Int32) ((xf_30 M v1 (1 : Int32)) - (1 : Int32))) v1 (0 : Int32) ((xf_30 M v1 (0 : Int32)) + (1 : Int32))) (2 : Int32)) else M)) else M)
theorem xl_146 {M : ro_Mm} {v1 : Int32} (hL : ro_lay M) : ro_lay (xm_146 M v1) := by
  unfold xm_146
  by_cases hz : (xf_29 M v1)
  · skip
    rw [if_pos hz]
    by_cases hz : (xf_30 M v1 (1 : Int32)) < (1 : Int32)
    · skip
      rw [if_pos hz]
      exact hL
    · skip
      rw [if_neg hz]
      by_cases hz : (xf_30 M v1 (0 : Int32)) < (20 : Int32)
      · skip
        rw [if_pos hz]
        exact (xl_145 (xl_33 (xl_33 hL)))
      · skip
        rw [if_neg hz]
        exact hL
  · skip
    rw [if_neg hz]
    exact hL
theorem xwI_146 {M : ro_Mm} {v1 : Int32} {c j : Nat} (n0 : c ≠ 7) (n1 : c ≠ 8) (n2 : c ≠ 9) (n3 : c ≠ 10) (n4 : c ≠ 5) (n5 : c ≠ 11) : (xm_146 M v1).2.1 c j = M.2.1 c j := by
  unfold xm_146
  by_cases hz : (xf_29 M v1)
  · rw [if_pos hz]
    by_cases hz : (xf_30 M v1 (1 : Int32)) < (1 : Int32)
    · rw [if_pos hz]
      first | done | exact rfl
    · rw [if_neg hz]
      by_cases hz : (xf_30 M v1 (0 : Int32)) < (20 : Int32)
      · rw [if_pos hz]
        first | done | exact ((((xwI_145 n5)).trans (xwI_33 n0 n1 n2 n3 n4)).trans (xwI_33 n0 n1 n2 n3 n4))
      · rw [if_neg hz]
        first | done | exact rfl
  · rw [if_neg hz]
    first | done | exact rfl
theorem xwJ_146 {M : ro_Mm} {v1 : Int32} {c j : Nat} : (xm_146 M v1).2.2.1 c j = M.2.2.1 c j := by
  unfold xm_146
  by_cases hz : (xf_29 M v1)
  · rw [if_pos hz]
    by_cases hz : (xf_30 M v1 (1 : Int32)) < (1 : Int32)
    · rw [if_pos hz]
      first | done | exact rfl
    · rw [if_neg hz]
      by_cases hz : (xf_30 M v1 (0 : Int32)) < (20 : Int32)
      · rw [if_pos hz]
        first | done | exact ((((xwJ_145)).trans (xwJ_33)).trans (xwJ_33))
      · rw [if_neg hz]
        first | done | exact rfl
  · rw [if_neg hz]
    first | done | exact rfl
/-- RefusedOnce.hour()I -/
def xf_147 (M : ro_Mm) : Int32 := (if (xf_30 M (0 : Int32) (5 : Int32)) < (11 : Int32) then ((xf_30 M (0 : Int32) (5 : Int32)) + (1 : Int32)) else (0 : Int32))
def xm_147 (M : ro_Mm) : ro_Mm := (if (xf_30 M (0 : Int32) (5 : Int32)) < (11 : Int32) then (xm_145 (xm_33 M (0 : Int32) (5 : Int32) ((xf_30 M (0 : Int32) (5 : Int32)) + (1 : Int32))) (3 : Int32)) else (xm_145 (xm_33 M (0 : Int32) (5 : Int32) (0 : Int32)) (3 : Int32)))
theorem xl_147 {M : ro_Mm} (hL : ro_lay M) : ro_lay (xm_147 M) := by
  unfold xm_147
  by_cases hz : (xf_30 M (0 : Int32) (5 : Int32)) < (11 : Int32)
  · skip
    rw [if_pos hz]
    exact (xl_145 (xl_33 hL))
  · skip
    rw [if_neg hz]
    exact (xl_145 (xl_33 hL))
theorem xwI_147 {M : ro_Mm} {c j : Nat} (n0 : c ≠ 7) (n1 : c ≠ 8) (n2 : c ≠ 9) (n3 : c ≠ 10) (n4 : c ≠ 5) (n5 : c ≠ 11) : (xm_147 M).2.1 c j = M.2.1 c j := by
  unfold xm_147
  by_cases hz : (xf_30 M (0 : Int32) (5 : Int32)) < (11 : Int32)
  · rw [if_pos hz]
    first | done | exact (((xwI_145 n5)).trans (xwI_33 n0 n1 n2 n3 n4))
  · rw [if_neg hz]
    first | done | exact (((xwI_145 n5)).trans (xwI_33 n0 n1 n2 n3 n4))
theorem xwJ_147 {M : ro_Mm} {c j : Nat} : (xm_147 M).2.2.1 c j = M.2.2.1 c j := by
  unfold xm_147
  by_cases hz : (xf_30 M (0 : Int32) (5 : Int32)) < (11 : Int32)
  · rw [if_pos hz]
    first | done | exact (((xwJ_145)).trans (xwJ_33))
  · rw [if_neg hz]
    first | done | exact (((xwJ_145)).trans (xwJ_33))
/-- RefusedOnce.led(I)I -/
def xf_148 (M : ro_Mm) (v1 : Int32) : Int32 := (if (xf_13 M v1 (0 : Int32) (3 : Int32)) then (xf_149 M v1) else (-1 : Int32))
theorem xs_148 {X : ro_Sx} {M : ro_Mm} {v1 : Int32} (hL : ro_lay M) : ro_cwp X 2 148 [.ref 4, .int v1] M (fun v M2 => v = some (.int (xf_148 M v1)) ∧ M2 = M) := by
  refine rs_begin (lv0 := [(0, .ref 4), (1, .int v1)]) (by decide) rfl (by rw [rm_148.1]; exact Nat.le_of_ble_eq_true rfl) rfl ?_
  refine rs_iload_n ri_148_0 rfl rfl ?_
  refine rs_iconst (v := (0 : Int32)) ri_148_1 rfl (by decide) ?_
  refine rs_iconst (v := (3 : Int32)) ri_148_2 rfl (by decide) ?_
  refine rs_stat (As := [.int v1, .int (0 : Int32), .int (3 : Int32)]) (r := []) ri_148_3 rfl rm_13.2.2.2 rfl rfl rfl (Nat.le_of_ble_eq_true rfl) (by decide) (by decide) (xs_13 (X := X) hL) ?_
  rintro _ _ ⟨e1, e2⟩
  rw [e1, e2]
  show ro_w X _ 148 _ 6 [(0, .ref 4), (1, .int v1)] [.int (ro_b (xf_13 M v1 (0 : Int32) (3 : Int32)))] M (0, 0)
  refine rs_ifeq_c (t := 20) ri_148_6 rfl rfl (fun h1 => ?_) (fun h1 => ?_)
  · skip
    refine rs_iconst (v := (-1 : Int32)) ri_148_20 rfl (by decide) ?_
    refine rs_iret ri_148_21 rm_148.2.1 (by decide) ?_
    exact ⟨by unfold xf_148; first | (simp only [if_neg h1]; done) | rfl, by rfl⟩
  · skip
    refine rs_aload_n ri_148_9 rfl rfl ?_
    refine rs_gf (v := .ref 5) ri_148_10 rfl (by decide) (ro_kf (kd_4 hL)) rfl (rf_4_0 hL) ?_
    refine rs_iload_n ri_148_13 rfl rfl ?_
    refine rs_virt (As := [.int v1]) (r := []) ri_148_14 rfl (by decide) rm_149.2.2.2 rm_149.2.2.1 rfl rfl rfl (by decide) (ro_kf (kd_5 hL)) (Nat.le_of_ble_eq_true rfl) (by decide) (by decide) (xs_149 (X := X) hL) ?_
    rintro _ _ ⟨e1, e2⟩
    rw [e1, e2]
    show ro_w X _ 148 _ 17 [(0, .ref 4), (1, .int v1)] [.int (xf_149 M v1)] M (0, 0)
    refine rs_goto (t := 21) ri_148_17 rfl ?_
    refine rs_iret ri_148_21 rm_148.2.1 (by decide) ?_
    exact ⟨by unfold xf_148; first | (simp only [if_pos h1]; done) | rfl, by rfl⟩
/-- RefusedOnce.undo()I -/
def xf_154 (M : ro_Mm) : Int32 := (if (xf_155 M) then (xf_156 (xm_155 M)) else (-5 : Int32))
def xm_154 (M : ro_Mm) : ro_Mm := (xm_155 M)
theorem xl_154 {M : ro_Mm} (hL : ro_lay M) : ro_lay (xm_154 M) := by
  unfold xm_154
  by_cases hz : (xf_155 M)
  · skip
    exact (xl_155 hL)
  · skip
    exact (xl_155 hL)
theorem xwI_154 {M : ro_Mm} {c j : Nat} (n0 : c ≠ 7) (n1 : c ≠ 8) (n2 : c ≠ 9) (n3 : c ≠ 10) (n4 : c ≠ 5) (n5 : c ≠ 54) : (xm_154 M).2.1 c j = M.2.1 c j := by
  unfold xm_154
  first | done | exact (xwI_155 n0 n1 n2 n3 n4 n5)
theorem xwJ_154 {M : ro_Mm} {c j : Nat} : (xm_154 M).2.2.1 c j = M.2.2.1 c j := by
  unfold xm_154
  first | done | exact (xwJ_155)
/-- RefusedOnce.redo()I -/
def xf_157 (M : ro_Mm) : Int32 := (if (xf_158 M) then (xf_159 (xm_158 M)) else (-5 : Int32))
def xm_157 (M : ro_Mm) : ro_Mm := (xm_158 M)
theorem xl_157 {M : ro_Mm} (hL : ro_lay M) : ro_lay (xm_157 M) := by
  unfold xm_157
  by_cases hz : (xf_158 M)
  · skip
    exact (xl_158 hL)
  · skip
    exact (xl_158 hL)
theorem xwI_157 {M : ro_Mm} {c j : Nat} (n0 : c ≠ 7) (n1 : c ≠ 8) (n2 : c ≠ 9) (n3 : c ≠ 10) (n4 : c ≠ 5) (n5 : c ≠ 54) : (xm_157 M).2.1 c j = M.2.1 c j := by
  unfold xm_157
  first | done | exact (xwI_158 n0 n1 n2 n3 n4 n5)
theorem xwJ_157 {M : ro_Mm} {c j : Nat} : (xm_157 M).2.2.1 c j = M.2.2.1 c j := by
  unfold xm_157
  first | done | exact (xwJ_158)
/-- RefusedOnce.body(I)I -/
def xf_160 (M : ro_Mm) (v1 : Int32) : Int32 := (if (xf_161 M v1) then (if (xf_162 M v1) then ((xf_163 (xm_162 M v1)) - (1 : Int32)) else (-3 : Int32)) else (-1 : Int32))
def xm_160 (M : ro_Mm) (v1 : Int32) : ro_Mm := (if (xf_161 M v1) then (xm_162 M v1) else M)
theorem xl_160 {M : ro_Mm} {v1 : Int32} (hL : ro_lay M) : ro_lay (xm_160 M v1) := by
  unfold xm_160
  by_cases hz : (xf_161 M v1)
  · skip
    rw [if_pos hz]
    by_cases hz : (xf_162 M v1)
    · skip
      exact (xl_162 hL)
    · skip
      exact (xl_162 hL)
  · skip
    rw [if_neg hz]
    exact hL
theorem xwI_160 {M : ro_Mm} {v1 : Int32} {c j : Nat} (n0 : c ≠ 60) (n1 : c ≠ 59) : (xm_160 M v1).2.1 c j = M.2.1 c j := by
  unfold xm_160
  by_cases hz : (xf_161 M v1)
  · rw [if_pos hz]
    first | done | exact (xwI_162 n0 n1)
  · rw [if_neg hz]
    first | done | exact rfl
theorem xwJ_160 {M : ro_Mm} {v1 : Int32} {c j : Nat} : (xm_160 M v1).2.2.1 c j = M.2.2.1 c j := by
  unfold xm_160
  by_cases hz : (xf_161 M v1)
  · rw [if_pos hz]
    first | done | exact (xwJ_162)
  · rw [if_neg hz]
    first | done | exact rfl
/-- RefusedOnce.trace(I)I -/
def xf_173 (M : ro_Mm) (v1 : Int32) : Int32 := (xf_174 M v1)
/-- RefusedOnce.keep(II)I -/
def xf_175 (M : ro_Mm) (v1 : Int32) (v2 : Int32) : Int32 := (if ro_bs v1 then (if (xf_13 M v2 (-1 : Int32) ((xf_163 M) - (1 : Int32))) then (1 : Int32) else (-1 : Int32)) else (-1 : Int32))
def xm_175 (M : ro_Mm) (v1 : Int32) (v2 : Int32) : ro_Mm := (if ro_bs v1 then (if (xf_13 M v2 (-1 : Int32) ((xf_163 M) - (1 : Int32))) then (xm_176 M (ro_sc v1) v2) else M) else M)
theorem xl_175 {M : ro_Mm} {v1 : Int32} {v2 : Int32} (hL : ro_lay M) : ro_lay (xm_175 M v1 v2) := by
  unfold xm_175
  by_cases hz : ro_bs v1
  · skip
    rw [if_pos hz]
    by_cases hz : (xf_13 M v2 (-1 : Int32) ((xf_163 M) - (1 : Int32)))
    · skip
      rw [if_pos hz]
      exact (xl_176 hL (ro_sc_is v1))
    · skip
      rw [if_neg hz]
      exact hL
  · skip
    rw [if_neg hz]
    exact hL
theorem xwI_175 {M : ro_Mm} {v1 : Int32} {v2 : Int32} {c j : Nat} (n0 : c ≠ (ro_sc v1)) : (xm_175 M v1 v2).2.1 c j = M.2.1 c j := by
  unfold xm_175
  by_cases hz : ro_bs v1
  · rw [if_pos hz]
    by_cases hz : (xf_13 M v2 (-1 : Int32) ((xf_163 M) - (1 : Int32)))
    · rw [if_pos hz]
      first | done | exact (xwI_176 n0)
    · rw [if_neg hz]
      first | done | exact rfl
  · rw [if_neg hz]
    first | done | exact rfl
theorem xwJ_175 {M : ro_Mm} {v1 : Int32} {v2 : Int32} {c j : Nat} : (xm_175 M v1 v2).2.2.1 c j = M.2.2.1 c j := by
  unfold xm_175
  by_cases hz : ro_bs v1
  · rw [if_pos hz]
    by_cases hz : (xf_13 M v2 (-1 : Int32) ((xf_163 M) - (1 : Int32)))
    · rw [if_pos hz]
      first | done | exact (xwJ_176)
    · rw [if_neg hz]
      first | done | exact rfl
  · rw [if_neg hz]
    first | done | exact rfl
/-- RefusedOnce$Shelf.putIn(IJ)Z -/
def xf_181 (M : ro_Mm) (c0 : Nat) (v1 : Int32) (v2 : Int64) : Bool := (if v1 < (0 : Int32) then false else (if (M.2.1 c0 2) ≤ v1 then false else (if v1 < (60 : Int32) then true else false)))
def xm_181 (M : ro_Mm) (c0 : Nat) (v1 : Int32) (v2 : Int64) : ro_Mm := (if v1 < (0 : Int32) then M else (if (M.2.1 c0 2) ≤ v1 then M else (if v1 < (60 : Int32) then (ro_sJ M (c0 + 1) (v1.toNatClampNeg) (xf_182 M c0 v2)) else M)))
theorem xs_181 {X : ro_Sx} {M : ro_Mm} {c0 : Nat} {v1 : Int32} {v2 : Int64} (hL : ro_lay M) (hc0 : ro_is c0) : ro_cwp X 2 181 [.ref c0, .int v1, .long v2] M (fun v M2 => v = some (.int (ro_b (xf_181 M c0 v1 v2))) ∧ M2 = xm_181 M c0 v1 v2) := by
  refine rs_begin (lv0 := [(0, .ref c0), (1, .int v1), (2, .long v2)]) (by decide) rfl (by rw [rm_181.1]; exact Nat.le_of_ble_eq_true rfl) rfl ?_
  refine rs_iload_n ri_181_0 rfl rfl ?_
  refine rs_if_lt (t := 21) ri_181_1 rfl rfl (fun h1 => ?_) (fun h1 => ?_)
  · skip
    refine rs_iconst (v := (0 : Int32)) ri_181_21 rfl (by decide) ?_
    refine rs_zret (p := false) ri_181_22 rm_181.2.1 (by decide) rfl ?_
    exact ⟨by unfold xf_181; first | (simp only [if_pos h1]; done) | rfl, by unfold xm_181; first | (simp only [if_pos h1]; done) | rfl⟩
  · skip
    refine rs_iload_n ri_181_4 rfl rfl ?_
    refine rs_aload_n ri_181_5 rfl rfl ?_
    refine rs_gf (v := .int (M.2.1 c0 2)) ri_181_6 rfl (ro_is4 hc0) (ro_kf (is_kd hL hc0)) rfl rfl ?_
    refine rs_icmp_ge (t := 21) ri_181_9 rfl rfl (fun h2 => ?_) (fun h2 => ?_)
    · skip
      refine rs_iconst (v := (0 : Int32)) ri_181_21 rfl (by decide) ?_
      refine rs_zret (p := false) ri_181_22 rm_181.2.1 (by decide) rfl ?_
      exact ⟨by unfold xf_181; first | (simp only [if_neg h1, if_pos h2]; done) | rfl, by unfold xm_181; first | (simp only [if_neg h1, if_pos h2]; done) | rfl⟩
    · skip
      refine rs_iload_n ri_181_12 rfl rfl ?_
      refine rs_aload_n ri_181_13 rfl rfl ?_
      refine rs_gf (v := .ref (c0 + 1)) ri_181_14 rfl (ro_is4 hc0) (ro_kf (is_kd hL hc0)) rfl (is_r0 hL hc0) ?_
      refine rs_len (v := (60 : Int32)) ri_181_17 rfl (by have := ro_is4 hc0; omega) (is_kd1 hL hc0) (by decide) rfl ?_
      refine rs_icmp_lt (t := 23) ri_181_18 rfl rfl (fun h3 => ?_) (fun h3 => ?_)
      · skip
        refine rs_aload_n ri_181_23 rfl rfl ?_
        refine rs_gf (v := .ref (c0 + 1)) ri_181_24 rfl (ro_is4 hc0) (ro_kf (is_kd hL hc0)) rfl (is_r0 hL hc0) ?_
        refine rs_iload_n ri_181_27 rfl rfl ?_
        refine rs_aload_n ri_181_28 rfl rfl ?_
        refine rs_lload_n ri_181_29 rfl rfl ?_
        refine rs_virt (As := [.long v2]) (r := [.int v1, .ref (c0 + 1)]) ri_181_30 rfl (by decide) rm_182.2.2.2 rm_182.2.2.1 rfl rfl rfl (ro_is4 hc0) (ro_kf (is_kd hL hc0)) (Nat.le_of_ble_eq_true rfl) (by decide) (by decide) (xs_182 (X := X) hL hc0) ?_
        rintro _ _ ⟨e1, e2⟩
        rw [e1, e2]
        show ro_w X _ 181 _ 33 [(0, .ref c0), (1, .int v1), (2, .long v2)] [.long (xf_182 M c0 v2), .int v1, .ref (c0 + 1)] M (0, 0)
        refine rs_last (j := v1.toNatClampNeg) ri_181_33 rfl (by have := ro_is4 hc0; omega) (is_kd1 hL hc0) (vp_in_iff.mpr ⟨(ro_lo1 h1), (ro_hi1 h3 (by decide))⟩) rfl ?_
        refine rs_iconst (v := (1 : Int32)) ri_181_34 rfl (by decide) ?_
        refine rs_zret (p := true) ri_181_35 rm_181.2.1 (by decide) rfl ?_
        exact ⟨by unfold xf_181; first | (simp only [if_neg h1, if_neg h2, if_pos h3]; done) | rfl, by unfold xm_181; first | (simp only [if_neg h1, if_neg h2, if_pos h3]; done) | rfl⟩
      · skip
        refine rs_iconst (v := (0 : Int32)) ri_181_21 rfl (by decide) ?_
        refine rs_zret (p := false) ri_181_22 rm_181.2.1 (by decide) rfl ?_
        exact ⟨by unfold xf_181; first | (simp only [if_neg h1, if_neg h2, if_neg h3]; done) | rfl, by unfold xm_181; first | (simp only [if_neg h1, if_neg h2, if_neg h3]; done) | rfl⟩
theorem xl_181 {M : ro_Mm} {c0 : Nat} {v1 : Int32} {v2 : Int64} (hL : ro_lay M) (hc0 : ro_is c0) : ro_lay (xm_181 M c0 v1 v2) := by
  unfold xm_181
  by_cases hz : v1 < (0 : Int32)
  · skip
    rw [if_pos hz]
    exact hL
  · skip
    rw [if_neg hz]
    by_cases hz : (M.2.1 c0 2) ≤ v1
    · skip
      rw [if_pos hz]
      exact hL
    · skip
      rw [if_neg hz]
      by_cases hz : v1 < (60 : Int32)
      · skip
        rw [if_pos hz]
        exact hL
      · skip
        rw [if_neg hz]
        exact hL
theorem xwI_181 {M : ro_Mm} {c0 : Nat} {v1 : Int32} {v2 : Int64} {c j : Nat} : (xm_181 M c0 v1 v2).2.1 c j = M.2.1 c j := by
  unfold xm_181
  by_cases hz : v1 < (0 : Int32)
  · rw [if_pos hz]
    first | done | exact rfl
  · rw [if_neg hz]
    by_cases hz : (M.2.1 c0 2) ≤ v1
    · rw [if_pos hz]
      first | done | exact rfl
    · rw [if_neg hz]
      by_cases hz : v1 < (60 : Int32)
      · rw [if_pos hz]
        first | done | exact rfl
      · rw [if_neg hz]
        first | done | exact rfl
theorem xwJ_181 {M : ro_Mm} {c0 : Nat} {v1 : Int32} {v2 : Int64} {c j : Nat} (n0 : c ≠ (c0 + 1)) : (xm_181 M c0 v1 v2).2.2.1 c j = M.2.2.1 c j := by
  unfold xm_181
  by_cases hz : v1 < (0 : Int32)
  · rw [if_pos hz]
    first | done | exact rfl
  · rw [if_neg hz]
    by_cases hz : (M.2.1 c0 2) ≤ v1
    · rw [if_pos hz]
      first | done | exact rfl
    · rw [if_neg hz]
      by_cases hz : v1 < (60 : Int32)
      · rw [if_pos hz]
        first | done | exact (ro_sJ_ne n0)
      · rw [if_neg hz]
        first | done | exact rfl
/-- RefusedOnceModel.person(I)I -/
def xf_194 (M : ro_Mm) (v1 : Int32) : Int32 := (if (xf_195 M v1 (0 : Int32) (20 : Int32)) then (if (M.2.1 163 1) = (6 : Int32) then (-3 : Int32) else (xf_196 M v1 (0 : Int32) (3 : Int32))) else (-1 : Int32))
def xm_194 (M : ro_Mm) (v1 : Int32) : ro_Mm := (if (xf_195 M v1 (0 : Int32) (20 : Int32)) then (if (M.2.1 163 1) = (6 : Int32) then M else (xm_196 M v1 (0 : Int32) (3 : Int32))) else M)
def xp_194 (M : ro_Mm) (v1 : Int32) : Prop := (((xf_195 M v1 (0 : Int32) (20 : Int32)) → (((M.2.1 163 1) = (6 : Int32) → True) ∧ (¬ ((M.2.1 163 1) = (6 : Int32)) → (xp_196 M v1 (0 : Int32) (3 : Int32) ∧ True)))) ∧ (¬ ((xf_195 M v1 (0 : Int32) (20 : Int32))) → True))
theorem xl_194 {M : ro_Mm} {v1 : Int32} (hL : ro_lay M) (hp : xp_194 M v1) : ro_lay (xm_194 M v1) := by
  unfold xp_194 at hp
  unfold xm_194
  by_cases hz : (xf_195 M v1 (0 : Int32) (20 : Int32))
  · have hp := hp.1 hz
    rw [if_pos hz]
    by_cases hz : (M.2.1 163 1) = (6 : Int32)
    · have hp := hp.1 hz
      rw [if_pos hz]
      exact hL
    · have hp := hp.2 hz
      rw [if_neg hz]
      obtain ⟨q2, hp⟩ := hp
      exact (xl_196 hL q2)
  · have hp := hp.2 hz
    rw [if_neg hz]
    exact hL
theorem xwI_194 {M : ro_Mm} {v1 : Int32} {c j : Nat} (n0 : c ≠ 164) (n1 : c ≠ 165) (n2 : c ≠ 166) (n3 : c ≠ 167) (n4 : c ≠ 163) : (xm_194 M v1).2.1 c j = M.2.1 c j := by
  unfold xm_194
  by_cases hz : (xf_195 M v1 (0 : Int32) (20 : Int32))
  · rw [if_pos hz]
    by_cases hz : (M.2.1 163 1) = (6 : Int32)
    · rw [if_pos hz]
      first | done | exact rfl
    · rw [if_neg hz]
      first | done | exact (xwI_196 n0 n1 n2 n3 n4)
  · rw [if_neg hz]
    first | done | exact rfl
theorem xwJ_194 {M : ro_Mm} {v1 : Int32} {c j : Nat} : (xm_194 M v1).2.2.1 c j = M.2.2.1 c j := by
  unfold xm_194
  by_cases hz : (xf_195 M v1 (0 : Int32) (20 : Int32))
  · rw [if_pos hz]
    by_cases hz : (M.2.1 163 1) = (6 : Int32)
    · rw [if_pos hz]
      first | done | exact rfl
    · rw [if_neg hz]
      first | done | exact (xwJ_196)
  · rw [if_neg hz]
    first | done | exact rfl
/-- RefusedOnceModel.undo()I -/
def xf_199 (M : ro_Mm) : Int32 := (if (M.2.1 163 7) = (0 : Int32) then (-5 : Int32) else ((M.2.1 163 7) - (1 : Int32)))
def xm_199 (M : ro_Mm) : ro_Mm := (if (M.2.1 163 7) = (0 : Int32) then M else (xm_200 (ro_sI (ro_sI M 163 7 ((M.2.1 163 7) - (1 : Int32))) 163 8 ((M.2.1 163 8) + (1 : Int32))) (M.2.1 169 (((M.2.1 163 7) - (1 : Int32)).toNatClampNeg)) (M.2.1 170 (((M.2.1 163 7) - (1 : Int32)).toNatClampNeg)) (M.2.1 171 (((M.2.1 163 7) - (1 : Int32)).toNatClampNeg))))
def xp_199 (M : ro_Mm) : Prop := (((M.2.1 163 7) = (0 : Int32) → True) ∧ (¬ ((M.2.1 163 7) = (0 : Int32)) → (vp_in ((M.2.1 163 7) - (1 : Int32)) 40 ∧ (vp_in ((M.2.1 163 7) - (1 : Int32)) 40 ∧ (vp_in ((M.2.1 163 7) - (1 : Int32)) 40 ∧ (xp_200 (ro_sI (ro_sI M 163 7 ((M.2.1 163 7) - (1 : Int32))) 163 8 ((M.2.1 163 8) + (1 : Int32))) (M.2.1 169 (((M.2.1 163 7) - (1 : Int32)).toNatClampNeg)) (M.2.1 170 (((M.2.1 163 7) - (1 : Int32)).toNatClampNeg)) (M.2.1 171 (((M.2.1 163 7) - (1 : Int32)).toNatClampNeg)) ∧ True))))))
theorem xl_199 {M : ro_Mm} (hL : ro_lay M) (hp : xp_199 M) : ro_lay (xm_199 M) := by
  unfold xp_199 at hp
  unfold xm_199
  by_cases hz : (M.2.1 163 7) = (0 : Int32)
  · have hp := hp.1 hz
    rw [if_pos hz]
    exact hL
  · have hp := hp.2 hz
    rw [if_neg hz]
    obtain ⟨q1, hp⟩ := hp
    obtain ⟨q2, hp⟩ := hp
    obtain ⟨q3, hp⟩ := hp
    obtain ⟨q4, hp⟩ := hp
    exact (xl_200 hL q4)
theorem xwI_199 {M : ro_Mm} {c j : Nat} (n0 : c ≠ 163) (n1 : c ≠ 164) (n2 : c ≠ 165) (n3 : c ≠ 166) (n4 : c ≠ 167) (n5 : c ≠ 168) : (xm_199 M).2.1 c j = M.2.1 c j := by
  unfold xm_199
  by_cases hz : (M.2.1 163 7) = (0 : Int32)
  · rw [if_pos hz]
    first | done | exact rfl
  · rw [if_neg hz]
    first | done | exact ((((xwI_200 n1 n2 n3 n4 n5)).trans (ro_sI_ne n0)).trans (ro_sI_ne n0))
theorem xwJ_199 {M : ro_Mm} {c j : Nat} : (xm_199 M).2.2.1 c j = M.2.2.1 c j := by
  unfold xm_199
  by_cases hz : (M.2.1 163 7) = (0 : Int32)
  · rw [if_pos hz]
    first | done | exact rfl
  · rw [if_neg hz]
    first | done | exact (xwJ_200)
/-- RefusedOnceModel.isPlace(II)Z -/
def xf_203 (M : ro_Mm) (v1 : Int32) (v2 : Int32) : Bool := (if (xf_195 M v2 (0 : Int32) (3 : Int32)) then (xf_204 M v1) else (if (xf_195 M v2 (4 : Int32) (6 : Int32)) then (if v1 = (0 : Int32) then true else false) else false))
/-- RefusedOnceModel.of(II)I -/
def xf_208 (M : ro_Mm) (v1 : Int32) (v2 : Int32) : Int32 := (if v2 = (7 : Int32) then (if (xf_204 M v1) then (((4 : Int32) * (M.2.1 164 (v1.toNatClampNeg))) + ((M.2.1 168 0) * (M.2.1 165 (v1.toNatClampNeg)))) else (-1 : Int32)) else (if v2 = (8 : Int32) then (if (xf_204 M v1) then (xf_209 M v1) else (-1 : Int32)) else (if (xf_203 M v1 v2) then (xf_207 M v2 v1) else (-1 : Int32))))
def xp_208 (M : ro_Mm) (v1 : Int32) (v2 : Int32) : Prop := ((v2 = (7 : Int32) → (((xf_204 M v1) → (vp_in v1 6 ∧ (vp_in v1 6 ∧ True))) ∧ (¬ ((xf_204 M v1)) → True))) ∧ (¬ (v2 = (7 : Int32)) → ((v2 = (8 : Int32) → (((xf_204 M v1) → (xp_209 M v1 ∧ True)) ∧ (¬ ((xf_204 M v1)) → True))) ∧ (¬ (v2 = (8 : Int32)) → (((xf_203 M v1 v2) → (xp_207 M v2 v1 ∧ True)) ∧ (¬ ((xf_203 M v1 v2)) → True))))))
/-- RefusedOnceModel.opens()Z -/
def xf_223 (M : ro_Mm) : Bool := (if (M.2.1 163 17) = (6 : Int32) then false else true)
def xm_223 (M : ro_Mm) : ro_Mm := (if (M.2.1 163 17) = (6 : Int32) then (xm_224 M) else (ro_sI (ro_sI M 163 17 ((M.2.1 163 17) + (1 : Int32))) 163 15 ((M.2.1 163 15) + (1 : Int32))))
theorem xl_223 {M : ro_Mm} (hL : ro_lay M) : ro_lay (xm_223 M) := by
  unfold xm_223
  by_cases hz : (M.2.1 163 17) = (6 : Int32)
  · skip
    rw [if_pos hz]
    exact (xl_224 hL)
  · skip
    rw [if_neg hz]
    exact hL
theorem xwI_223 {M : ro_Mm} {c j : Nat} (n0 : c ≠ 163) : (xm_223 M).2.1 c j = M.2.1 c j := by
  unfold xm_223
  by_cases hz : (M.2.1 163 17) = (6 : Int32)
  · rw [if_pos hz]
    first | done | exact (xwI_224 n0)
  · rw [if_neg hz]
    first | done | exact (((ro_sI_ne n0)).trans (ro_sI_ne n0))
theorem xwJ_223 {M : ro_Mm} {c j : Nat} : (xm_223 M).2.2.1 c j = M.2.2.1 c j := by
  unfold xm_223
  by_cases hz : (M.2.1 163 17) = (6 : Int32)
  · rw [if_pos hz]
    first | done | exact (xwJ_224)
  · rw [if_neg hz]
    first | done | exact rfl
/-- RefusedOnceModel.offering(II)I -/
def xf_285 (M : ro_Mm) (v1 : Int32) (v2 : Int32) : Int32 := (if (xf_286 M (M.2.1 188 (v1.toNatClampNeg)) (1 : Int32)) then ((xf_288 (xm_287 M (20 : Int32)) v1 v2) + (3 : Int32)) else (if (M.2.1 188 (v1.toNatClampNeg)) = (7 : Int32) then ((xf_289 (xm_287 M (81 : Int32)) v1 v2) - (1 : Int32)) else (if (M.2.1 188 (v1.toNatClampNeg)) = (6 : Int32) then (xf_289 M v1 v2) else (xf_288 M v1 v2))))
def xm_285 (M : ro_Mm) (v1 : Int32) (v2 : Int32) : ro_Mm := (if (xf_286 M (M.2.1 188 (v1.toNatClampNeg)) (1 : Int32)) then (xm_288 (xm_287 M (20 : Int32)) v1 v2) else (if (M.2.1 188 (v1.toNatClampNeg)) = (7 : Int32) then (xm_289 (xm_287 M (81 : Int32)) v1 v2) else (if (M.2.1 188 (v1.toNatClampNeg)) = (6 : Int32) then (xm_289 M v1 v2) else (xm_288 M v1 v2))))
def xp_285 (M : ro_Mm) (v1 : Int32) (v2 : Int32) : Prop := (vp_in v1 50 ∧ (((xf_286 M (M.2.1 188 (v1.toNatClampNeg)) (1 : Int32)) → (xp_287 M (20 : Int32) ∧ (xp_288 (xm_287 M (20 : Int32)) v1 v2 ∧ True))) ∧ (¬ ((xf_286 M (M.2.1 188 (v1.toNatClampNeg)) (1 : Int32))) → (vp_in v1 50 ∧ (((M.2.1 188 (v1.toNatClampNeg)) = (7 : Int32) → (xp_287 M (81 : Int32) ∧ (xp_289 (xm_287 M (81 : Int32)) v1 v2 ∧ True))) ∧ (¬ ((M.2.1 188 (v1.toNatClampNeg)) = (7 : Int32)) → (vp_in v1 50 ∧ (((M.2.1 188 (v1.toNatClampNeg)) = (6 : Int32) → (xp_289 M v1 v2 ∧ True)) ∧ (¬ ((M.2.1 188 (v1.toNatClampNeg)) = (6 : Int32)) → (xp_288 M v1 v2 ∧ True))))))))))
theorem xl_285 {M : ro_Mm} {v1 : Int32} {v2 : Int32} (hL : ro_lay M) (hp : xp_285 M v1 v2) : ro_lay (xm_285 M v1 v2) := by
  unfold xp_285 at hp
  unfold xm_285
  obtain ⟨q0, hp⟩ := hp
  by_cases hz : (xf_286 M (M.2.1 188 (v1.toNatClampNeg)) (1 : Int32))
  · have hp := hp.1 hz
    rw [if_pos hz]
    obtain ⟨q10, hp⟩ := hp
    obtain ⟨q11, hp⟩ := hp
    exact (xl_288 (xl_287 hL q10) q11)
  · have hp := hp.2 hz
    rw [if_neg hz]
    obtain ⟨q2, hp⟩ := hp
    by_cases hz : (M.2.1 188 (v1.toNatClampNeg)) = (7 : Int32)
    · have hp := hp.1 hz
      rw [if_pos hz]
      obtain ⟨q8, hp⟩ := hp
      obtain ⟨q9, hp⟩ := hp
      exact (xl_289 (xl_287 hL q8) q9)
    · have hp := hp.2 hz
      rw [if_neg hz]
      obtain ⟨q4, hp⟩ := hp
      by_cases hz : (M.2.1 188 (v1.toNatClampNeg)) = (6 : Int32)
      · have hp := hp.1 hz
        rw [if_pos hz]
        obtain ⟨q7, hp⟩ := hp
        exact (xl_289 hL q7)
      · have hp := hp.2 hz
        rw [if_neg hz]
        obtain ⟨q6, hp⟩ := hp
        exact (xl_288 hL q6)
theorem xwI_285 {M : ro_Mm} {v1 : Int32} {v2 : Int32} {c j : Nat} (n0 : c ≠ 163) (n1 : c ≠ 189) : (xm_285 M v1 v2).2.1 c j = M.2.1 c j := by
  unfold xm_285
  by_cases hz : (xf_286 M (M.2.1 188 (v1.toNatClampNeg)) (1 : Int32))
  · rw [if_pos hz]
    first | done | exact (((xwI_288 n0 n1)).trans (xwI_287 n0 n1))
  · rw [if_neg hz]
    by_cases hz : (M.2.1 188 (v1.toNatClampNeg)) = (7 : Int32)
    · rw [if_pos hz]
      first | done | exact (((xwI_289 n0 n1)).trans (xwI_287 n0 n1))
    · rw [if_neg hz]
      by_cases hz : (M.2.1 188 (v1.toNatClampNeg)) = (6 : Int32)
      · rw [if_pos hz]
        first | done | exact (xwI_289 n0 n1)
      · rw [if_neg hz]
        first | done | exact (xwI_288 n0 n1)
theorem xwJ_285 {M : ro_Mm} {v1 : Int32} {v2 : Int32} {c j : Nat} : (xm_285 M v1 v2).2.2.1 c j = M.2.2.1 c j := by
  unfold xm_285
  by_cases hz : (xf_286 M (M.2.1 188 (v1.toNatClampNeg)) (1 : Int32))
  · rw [if_pos hz]
    first | done | exact (((xwJ_288)).trans (xwJ_287))
  · rw [if_neg hz]
    by_cases hz : (M.2.1 188 (v1.toNatClampNeg)) = (7 : Int32)
    · rw [if_pos hz]
      first | done | exact (((xwJ_289)).trans (xwJ_287))
    · rw [if_neg hz]
      by_cases hz : (M.2.1 188 (v1.toNatClampNeg)) = (6 : Int32)
      · rw [if_pos hz]
        first | done | exact (xwJ_289)
      · rw [if_neg hz]
        first | done | exact (xwJ_288)
/-- RefusedOnceModel.plainNotches(II)I -/
def xf_292 (M : ro_Mm) (v1 : Int32) (v2 : Int32) : Int32 := ((xf_285 (xm_287 M (10 : Int32)) v1 v2) * (2 : Int32))
def xm_292 (M : ro_Mm) (v1 : Int32) (v2 : Int32) : ro_Mm := (xm_285 (xm_287 M (10 : Int32)) v1 v2)
def xp_292 (M : ro_Mm) (v1 : Int32) (v2 : Int32) : Prop := (xp_287 M (10 : Int32) ∧ (xp_285 (xm_287 M (10 : Int32)) v1 v2 ∧ True))
theorem xl_292 {M : ro_Mm} {v1 : Int32} {v2 : Int32} (hL : ro_lay M) (hp : xp_292 M v1 v2) : ro_lay (xm_292 M v1 v2) := by
  unfold xp_292 at hp
  unfold xm_292
  obtain ⟨q0, hp⟩ := hp
  obtain ⟨q1, hp⟩ := hp
  exact (xl_285 (xl_287 hL q0) q1)
theorem xwI_292 {M : ro_Mm} {v1 : Int32} {v2 : Int32} {c j : Nat} (n0 : c ≠ 163) (n1 : c ≠ 189) : (xm_292 M v1 v2).2.1 c j = M.2.1 c j := by
  unfold xm_292
  first | done | exact (((xwI_285 n0 n1)).trans (xwI_287 n0 n1))
theorem xwJ_292 {M : ro_Mm} {v1 : Int32} {v2 : Int32} {c j : Nat} : (xm_292 M v1 v2).2.2.1 c j = M.2.2.1 c j := by
  unfold xm_292
  first | done | exact (((xwJ_285)).trans (xwJ_287))
/-- RefusedOnceModel.childTakes(II)I -/
def xf_294 (M : ro_Mm) (v1 : Int32) (v2 : Int32) : Int32 := ((xf_295 (xm_287 M (40 : Int32)) v1 v2) * (3 : Int32))
def xm_294 (M : ro_Mm) (v1 : Int32) (v2 : Int32) : ro_Mm := (xm_295 (xm_287 M (40 : Int32)) v1 v2)
def xp_294 (M : ro_Mm) (v1 : Int32) (v2 : Int32) : Prop := (xp_287 M (40 : Int32) ∧ (xp_295 (xm_287 M (40 : Int32)) v1 v2 ∧ True))
theorem xl_294 {M : ro_Mm} {v1 : Int32} {v2 : Int32} (hL : ro_lay M) (hp : xp_294 M v1 v2) : ro_lay (xm_294 M v1 v2) := by
  unfold xp_294 at hp
  unfold xm_294
  obtain ⟨q0, hp⟩ := hp
  obtain ⟨q1, hp⟩ := hp
  exact (xl_295 (xl_287 hL q0) q1)
theorem xwI_294 {M : ro_Mm} {v1 : Int32} {v2 : Int32} {c j : Nat} (n0 : c ≠ 163) (n1 : c ≠ 189) : (xm_294 M v1 v2).2.1 c j = M.2.1 c j := by
  unfold xm_294
  first | done | exact (((xwI_295 n0 n1)).trans (xwI_287 n0 n1))
theorem xwJ_294 {M : ro_Mm} {v1 : Int32} {v2 : Int32} {c j : Nat} : (xm_294 M v1 v2).2.2.1 c j = M.2.2.1 c j := by
  unfold xm_294
  first | done | exact (((xwJ_295)).trans (xwJ_287))
/-- RefusedOnceModel.put(IIJ)I -/
def xf_302 (M : ro_Mm) (v1 : Int32) (v2 : Int32) (v3 : Int64) : Int32 := (if (0 : Int32) ≤ (xf_303 M v1 v2) then (1 : Int32) else (xf_303 M v1 v2))
def xm_302 (M : ro_Mm) (v1 : Int32) (v2 : Int32) (v3 : Int64) : ro_Mm := (if (0 : Int32) ≤ (xf_303 M v1 v2) then (if ((-2 : Int32) - (M.2.1 190 (v1.toNatClampNeg))) = (0 : Int32) then (ro_sJ M 192 ((((60 : Int32) * v1) + v2).toNatClampNeg) (((v3.toInt32).toInt8.toInt32).toInt64)) else (if ((-2 : Int32) - (M.2.1 190 (v1.toNatClampNeg))) = (1 : Int32) then (ro_sJ M 192 ((((60 : Int32) * v1) + v2).toNatClampNeg) (((v3.toInt32).toInt16.toInt32).toInt64)) else (if ((-2 : Int32) - (M.2.1 190 (v1.toNatClampNeg))) = (2 : Int32) then (ro_sJ M 192 ((((60 : Int32) * v1) + v2).toNatClampNeg) ((v3.toInt32).toInt64)) else (if ((-2 : Int32) - (M.2.1 190 (v1.toNatClampNeg))) = (3 : Int32) then (ro_sJ M 192 ((((60 : Int32) * v1) + v2).toNatClampNeg) v3) else (if (lg_cmp v3 (0 : Int64)) = (0 : Int32) then (ro_sJ M 192 ((((60 : Int32) * v1) + v2).toNatClampNeg) (0 : Int64)) else (ro_sJ M 192 ((((60 : Int32) * v1) + v2).toNatClampNeg) (1 : Int64))))))) else M)
def xp_302 (M : ro_Mm) (v1 : Int32) (v2 : Int32) (v3 : Int64) : Prop := (xp_303 M v1 v2 ∧ (((0 : Int32) ≤ (xf_303 M v1 v2) → (vp_in v1 6 ∧ ((((-2 : Int32) - (M.2.1 190 (v1.toNatClampNeg))) = (0 : Int32) → (vp_in (((60 : Int32) * v1) + v2) 360 ∧ True)) ∧ (¬ (((-2 : Int32) - (M.2.1 190 (v1.toNatClampNeg))) = (0 : Int32)) → ((((-2 : Int32) - (M.2.1 190 (v1.toNatClampNeg))) = (1 : Int32) → (vp_in (((60 : Int32) * v1) + v2) 360 ∧ True)) ∧ (¬ (((-2 : Int32) - (M.2.1 190 (v1.toNatClampNeg))) = (1 : Int32)) → ((((-2 : Int32) - (M.2.1 190 (v1.toNatClampNeg))) = (2 : Int32) → (vp_in (((60 : Int32) * v1) + v2) 360 ∧ True)) ∧ (¬ (((-2 : Int32) - (M.2.1 190 (v1.toNatClampNeg))) = (2 : Int32)) → ((((-2 : Int32) - (M.2.1 190 (v1.toNatClampNeg))) = (3 : Int32) → (vp_in (((60 : Int32) * v1) + v2) 360 ∧ True)) ∧ (¬ (((-2 : Int32) - (M.2.1 190 (v1.toNatClampNeg))) = (3 : Int32)) → (((lg_cmp v3 (0 : Int64)) = (0 : Int32) → (vp_in (((60 : Int32) * v1) + v2) 360 ∧ True)) ∧ (¬ ((lg_cmp v3 (0 : Int64)) = (0 : Int32)) → (vp_in (((60 : Int32) * v1) + v2) 360 ∧ True))))))))))))) ∧ (¬ ((0 : Int32) ≤ (xf_303 M v1 v2)) → True)))
theorem xl_302 {M : ro_Mm} {v1 : Int32} {v2 : Int32} {v3 : Int64} (hL : ro_lay M) (hp : xp_302 M v1 v2 v3) : ro_lay (xm_302 M v1 v2 v3) := by
  unfold xp_302 at hp
  unfold xm_302
  obtain ⟨q0, hp⟩ := hp
  by_cases hz : (0 : Int32) ≤ (xf_303 M v1 v2)
  · have hp := hp.1 hz
    rw [if_pos hz]
    obtain ⟨q2, hp⟩ := hp
    by_cases hz : ((-2 : Int32) - (M.2.1 190 (v1.toNatClampNeg))) = (0 : Int32)
    · have hp := hp.1 hz
      rw [if_pos hz]
      obtain ⟨q13, hp⟩ := hp
      exact hL
    · have hp := hp.2 hz
      rw [if_neg hz]
      by_cases hz : ((-2 : Int32) - (M.2.1 190 (v1.toNatClampNeg))) = (1 : Int32)
      · have hp := hp.1 hz
        rw [if_pos hz]
        obtain ⟨q12, hp⟩ := hp
        exact hL
      · have hp := hp.2 hz
        rw [if_neg hz]
        by_cases hz : ((-2 : Int32) - (M.2.1 190 (v1.toNatClampNeg))) = (2 : Int32)
        · have hp := hp.1 hz
          rw [if_pos hz]
          obtain ⟨q11, hp⟩ := hp
          exact hL
        · have hp := hp.2 hz
          rw [if_neg hz]
          by_cases hz : ((-2 : Int32) - (M.2.1 190 (v1.toNatClampNeg))) = (3 : Int32)
          · have hp := hp.1 hz
            rw [if_pos hz]
            obtain ⟨q10, hp⟩ := hp
            exact hL
          · have hp := hp.2 hz
            rw [if_neg hz]
            by_cases hz : (lg_cmp v3 (0 : Int64)) = (0 : Int32)
            · have hp := hp.1 hz
              rw [if_pos hz]
              obtain ⟨q8, hp⟩ := hp
              exact hL
            · have hp := hp.2 hz
              rw [if_neg hz]
              obtain ⟨q9, hp⟩ := hp
              exact hL
  · have hp := hp.2 hz
    rw [if_neg hz]
    exact hL
theorem xwI_302 {M : ro_Mm} {v1 : Int32} {v2 : Int32} {v3 : Int64} {c j : Nat} : (xm_302 M v1 v2 v3).2.1 c j = M.2.1 c j := by
  unfold xm_302
  by_cases hz : (0 : Int32) ≤ (xf_303 M v1 v2)
  · rw [if_pos hz]
    by_cases hz : ((-2 : Int32) - (M.2.1 190 (v1.toNatClampNeg))) = (0 : Int32)
    · rw [if_pos hz]
      first | done | exact rfl
    · rw [if_neg hz]
      by_cases hz : ((-2 : Int32) - (M.2.1 190 (v1.toNatClampNeg))) = (1 : Int32)
      · rw [if_pos hz]
        first | done | exact rfl
      · rw [if_neg hz]
        by_cases hz : ((-2 : Int32) - (M.2.1 190 (v1.toNatClampNeg))) = (2 : Int32)
        · rw [if_pos hz]
          first | done | exact rfl
        · rw [if_neg hz]
          by_cases hz : ((-2 : Int32) - (M.2.1 190 (v1.toNatClampNeg))) = (3 : Int32)
          · rw [if_pos hz]
            first | done | exact rfl
          · rw [if_neg hz]
            by_cases hz : (lg_cmp v3 (0 : Int64)) = (0 : Int32)
            · rw [if_pos hz]
              first | done | exact rfl
            · rw [if_neg hz]
              first | done | exact rfl
  · rw [if_neg hz]
    first | done | exact rfl
theorem xwJ_302 {M : ro_Mm} {v1 : Int32} {v2 : Int32} {v3 : Int64} {c j : Nat} (n0 : c ≠ 192) : (xm_302 M v1 v2 v3).2.2.1 c j = M.2.2.1 c j := by
  unfold xm_302
  by_cases hz : (0 : Int32) ≤ (xf_303 M v1 v2)
  · rw [if_pos hz]
    by_cases hz : ((-2 : Int32) - (M.2.1 190 (v1.toNatClampNeg))) = (0 : Int32)
    · rw [if_pos hz]
      first | done | exact (ro_sJ_ne n0)
    · rw [if_neg hz]
      by_cases hz : ((-2 : Int32) - (M.2.1 190 (v1.toNatClampNeg))) = (1 : Int32)
      · rw [if_pos hz]
        first | done | exact (ro_sJ_ne n0)
      · rw [if_neg hz]
        by_cases hz : ((-2 : Int32) - (M.2.1 190 (v1.toNatClampNeg))) = (2 : Int32)
        · rw [if_pos hz]
          first | done | exact (ro_sJ_ne n0)
        · rw [if_neg hz]
          by_cases hz : ((-2 : Int32) - (M.2.1 190 (v1.toNatClampNeg))) = (3 : Int32)
          · rw [if_pos hz]
            first | done | exact (ro_sJ_ne n0)
          · rw [if_neg hz]
            by_cases hz : (lg_cmp v3 (0 : Int64)) = (0 : Int32)
            · rw [if_pos hz]
              first | done | exact (ro_sJ_ne n0)
            · rw [if_neg hz]
              first | done | exact (ro_sJ_ne n0)
  · rw [if_neg hz]
    first | done | exact rfl
/-- RefusedOnce.person(I)I -/
def xf_12 (M : ro_Mm) (v1 : Int32) : Int32 := (if (xf_13 M v1 (0 : Int32) (20 : Int32)) then (if (xf_14 M v1 (0 : Int32) (3 : Int32)) then ((xf_18 (xm_14 M v1 (0 : Int32) (3 : Int32))) - (1 : Int32)) else (-3 : Int32)) else (-1 : Int32))
def xm_12 (M : ro_Mm) (v1 : Int32) : ro_Mm := (if (xf_13 M v1 (0 : Int32) (20 : Int32)) then (xm_14 M v1 (0 : Int32) (3 : Int32)) else M)
theorem xs_12 {X : ro_Sx} {M : ro_Mm} {v1 : Int32} (hL : ro_lay M) : ro_cwp X 3 12 [.ref 4, .int v1] M (fun v M2 => v = some (.int (xf_12 M v1)) ∧ M2 = xm_12 M v1) := by
  refine rs_begin (lv0 := [(0, .ref 4), (1, .int v1)]) (by decide) rfl (by rw [rm_12.1]; exact Nat.le_of_ble_eq_true rfl) rfl ?_
  refine rs_iload_n ri_12_0 rfl rfl ?_
  refine rs_iconst (v := (0 : Int32)) ri_12_1 rfl (by decide) ?_
  refine rs_bipush (v := (20 : Int32)) ri_12_2 rfl (by decide) ?_
  refine rs_stat (As := [.int v1, .int (0 : Int32), .int (20 : Int32)]) (r := []) ri_12_4 rfl rm_13.2.2.2 rfl rfl rfl (Nat.le_of_ble_eq_true rfl) (by decide) (by decide) (xs_13 (X := X) hL) ?_
  rintro _ _ ⟨e1, e2⟩
  rw [e1, e2]
  show ro_w X _ 12 _ 7 [(0, .ref 4), (1, .int v1)] [.int (ro_b (xf_13 M v1 (0 : Int32) (20 : Int32)))] M (0, 0)
  refine rs_ifne_c (t := 12) ri_12_7 rfl rfl (fun h1 => ?_) (fun h1 => ?_)
  · skip
    refine rs_aload_n ri_12_12 rfl rfl ?_
    refine rs_gf (v := .ref 5) ri_12_13 rfl (by decide) (ro_kf (kd_4 hL)) rfl (rf_4_0 hL) ?_
    refine rs_iload_n ri_12_16 rfl rfl ?_
    refine rs_iconst (v := (0 : Int32)) ri_12_17 rfl (by decide) ?_
    refine rs_iconst (v := (3 : Int32)) ri_12_18 rfl (by decide) ?_
    refine rs_virt (As := [.int v1, .int (0 : Int32), .int (3 : Int32)]) (r := []) ri_12_19 rfl (by decide) rm_14.2.2.2 rm_14.2.2.1 rfl rfl rfl (by decide) (ro_kf (kd_5 hL)) (Nat.le_of_ble_eq_true rfl) (by decide) (by decide) (xs_14 (X := X) hL) ?_
    rintro _ _ ⟨e1, e2⟩
    rw [e1, e2]
    show ro_w X _ 12 _ 22 [(0, .ref 4), (1, .int v1)] [.int (ro_b (xf_14 M v1 (0 : Int32) (3 : Int32)))] (xm_14 M v1 (0 : Int32) (3 : Int32)) (0, 0)
    refine rs_ifeq_c (t := 37) ri_12_22 rfl rfl (fun h2 => ?_) (fun h2 => ?_)
    · skip
      refine rs_bipush (v := (-3 : Int32)) ri_12_37 rfl (by decide) ?_
      refine rs_iret ri_12_39 rm_12.2.1 (by decide) ?_
      exact ⟨by unfold xf_12; first | (simp only [if_pos h1, if_neg h2]; done) | rfl, by unfold xm_12; first | (simp only [if_pos h1, if_neg h2]; done) | rfl⟩
    · skip
      refine rs_aload_n ri_12_25 rfl rfl ?_
      refine rs_gf (v := .ref 5) ri_12_26 rfl (by decide) (ro_kf (kd_4 (xl_14 hL))) rfl (rf_4_0 (xl_14 hL)) ?_
      refine rs_virt (As := []) (r := []) ri_12_29 rfl (by decide) rm_18.2.2.2 rm_18.2.2.1 rfl rfl rfl (by decide) (ro_kf (kd_5 (xl_14 hL))) (Nat.le_of_ble_eq_true rfl) (by decide) (by decide) (xs_18 (X := X) (xl_14 hL)) ?_
      rintro _ _ ⟨e1, e2⟩
      rw [e1, e2]
      show ro_w X _ 12 _ 32 [(0, .ref 4), (1, .int v1)] [.int (xf_18 (xm_14 M v1 (0 : Int32) (3 : Int32)))] (xm_14 M v1 (0 : Int32) (3 : Int32)) (0, 0)
      refine rs_iconst (v := (1 : Int32)) ri_12_32 rfl (by decide) ?_
      refine rs_isub (r := ((xf_18 (xm_14 M v1 (0 : Int32) (3 : Int32))) - (1 : Int32))) ri_12_33 rfl rfl ?_
      refine rs_goto (t := 39) ri_12_34 rfl ?_
      refine rs_iret ri_12_39 rm_12.2.1 (by decide) ?_
      exact ⟨by unfold xf_12; first | (simp only [if_pos h1, if_pos h2]; done) | rfl, by unfold xm_12; first | (simp only [if_pos h1, if_pos h2]; done) | rfl⟩
  · skip
    refine rs_iconst (v := (-1 : Int32)) ri_12_10 rfl (by decide) ?_
    refine rs_iret ri_12_11 rm_12.2.1 (by decide) ?_
    exact ⟨by unfold xf_12; first | (simp only [if_neg h1]; done) | rfl, by unfold xm_12; first | (simp only [if_neg h1]; done) | rfl⟩
theorem xl_12 {M : ro_Mm} {v1 : Int32} (hL : ro_lay M) : ro_lay (xm_12 M v1) := by
  unfold xm_12
  by_cases hz : (xf_13 M v1 (0 : Int32) (20 : Int32))
  · skip
    rw [if_pos hz]
    by_cases hz : (xf_14 M v1 (0 : Int32) (3 : Int32))
    · skip
      exact (xl_14 hL)
    · skip
      exact (xl_14 hL)
  · skip
    rw [if_neg hz]
    exact hL
theorem xwI_12 {M : ro_Mm} {v1 : Int32} {c j : Nat} (n0 : c ≠ 7) (n1 : c ≠ 8) (n2 : c ≠ 9) (n3 : c ≠ 10) (n4 : c ≠ 5) : (xm_12 M v1).2.1 c j = M.2.1 c j := by
  unfold xm_12
  by_cases hz : (xf_13 M v1 (0 : Int32) (20 : Int32))
  · rw [if_pos hz]
    first | done | exact (xwI_14 n0 n1 n2 n3 n4)
  · rw [if_neg hz]
    first | done | exact rfl
theorem xwJ_12 {M : ro_Mm} {v1 : Int32} {c j : Nat} : (xm_12 M v1).2.2.1 c j = M.2.2.1 c j := by
  unfold xm_12
  by_cases hz : (xf_13 M v1 (0 : Int32) (20 : Int32))
  · rw [if_pos hz]
    first | done | exact (xwJ_14)
  · rw [if_neg hz]
    first | done | exact rfl
/-- RefusedOnce.of(II)I -/
def xf_36 (M : ro_Mm) (v1 : Int32) (v2 : Int32) : Int32 := (if (xf_28 M v1 v2) then (xf_30 M v1 v2) else (if (xf_29 M v1) then (if v2 = (7 : Int32) then (xf_37 M 6 v1) else (if v2 = (8 : Int32) then (xf_39 M v1) else (-1 : Int32))) else (-1 : Int32)))
theorem xs_36 {X : ro_Sx} {M : ro_Mm} {v1 : Int32} {v2 : Int32} (hL : ro_lay M) : ro_cwp X 4 36 [.ref 4, .int v1, .int v2] M (fun v M2 => v = some (.int (xf_36 M v1 v2)) ∧ M2 = M) := by
  refine rs_begin (lv0 := [(0, .ref 4), (1, .int v1), (2, .int v2)]) (by decide) rfl (by rw [rm_36.1]; exact Nat.le_of_ble_eq_true rfl) rfl ?_
  refine rs_aload_n ri_36_0 rfl rfl ?_
  refine rs_gf (v := .ref 5) ri_36_1 rfl (by decide) (ro_kf (kd_4 hL)) rfl (rf_4_0 hL) ?_
  refine rs_iload_n ri_36_4 rfl rfl ?_
  refine rs_iload_n ri_36_5 rfl rfl ?_
  refine rs_virt (As := [.int v1, .int v2]) (r := []) ri_36_6 rfl (by decide) rm_28.2.2.2 rm_28.2.2.1 rfl rfl rfl (by decide) (ro_kf (kd_5 hL)) (Nat.le_of_ble_eq_true rfl) (by decide) (by decide) (xs_28 (X := X) hL) ?_
  rintro _ _ ⟨e1, e2⟩
  rw [e1, e2]
  show ro_w X _ 36 _ 9 [(0, .ref 4), (1, .int v1), (2, .int v2)] [.int (ro_b (xf_28 M v1 v2))] M (0, 0)
  refine rs_ifeq_c (t := 22) ri_36_9 rfl rfl (fun h1 => ?_) (fun h1 => ?_)
  · skip
    refine rs_aload_n ri_36_22 rfl rfl ?_
    refine rs_gf (v := .ref 5) ri_36_23 rfl (by decide) (ro_kf (kd_4 hL)) rfl (rf_4_0 hL) ?_
    refine rs_iload_n ri_36_26 rfl rfl ?_
    refine rs_virt (As := [.int v1]) (r := []) ri_36_27 rfl (by decide) rm_29.2.2.2 rm_29.2.2.1 rfl rfl rfl (by decide) (ro_kf (kd_5 hL)) (Nat.le_of_ble_eq_true rfl) (by decide) (by decide) (xs_29 (X := X) hL) ?_
    rintro _ _ ⟨e1, e2⟩
    rw [e1, e2]
    show ro_w X _ 36 _ 30 [(0, .ref 4), (1, .int v1), (2, .int v2)] [.int (ro_b (xf_29 M v1))] M (0, 0)
    refine rs_ifne_c (t := 35) ri_36_30 rfl rfl (fun h2 => ?_) (fun h2 => ?_)
    · skip
      refine rs_iload_n ri_36_35 rfl rfl ?_
      refine rs_bipush (v := (7 : Int32)) ri_36_36 rfl (by decide) ?_
      refine rs_icmp_ne (t := 57) ri_36_38 rfl rfl (fun h3 => ?_) (fun h3 => ?_)
      · skip
        refine rs_iload_n ri_36_57 rfl rfl ?_
        refine rs_bipush (v := (8 : Int32)) ri_36_58 rfl (by decide) ?_
        refine rs_icmp_ne (t := 74) ri_36_60 rfl rfl (fun h4 => ?_) (fun h4 => ?_)
        · skip
          refine rs_iconst (v := (-1 : Int32)) ri_36_74 rfl (by decide) ?_
          refine rs_iret ri_36_75 rm_36.2.1 (by decide) ?_
          exact ⟨by unfold xf_36; first | (simp only [if_neg h1, if_pos h2, if_neg h3, if_neg h4]; done) | rfl, by rfl⟩
        · skip
          refine rs_aload_n ri_36_63 rfl rfl ?_
          refine rs_gf (v := .ref 5) ri_36_64 rfl (by decide) (ro_kf (kd_4 hL)) rfl (rf_4_0 hL) ?_
          refine rs_iload_n ri_36_67 rfl rfl ?_
          refine rs_virt (As := [.int v1]) (r := []) ri_36_68 rfl (by decide) rm_39.2.2.2 rm_39.2.2.1 rfl rfl rfl (by decide) (ro_kf (kd_5 hL)) (Nat.le_of_ble_eq_true rfl) (by decide) (by decide) (xs_39 (X := X) hL) ?_
          rintro _ _ ⟨e1, e2⟩
          rw [e1, e2]
          show ro_w X _ 36 _ 71 [(0, .ref 4), (1, .int v1), (2, .int v2)] [.int (xf_39 M v1)] M (0, 0)
          refine rs_goto (t := 75) ri_36_71 rfl ?_
          refine rs_iret ri_36_75 rm_36.2.1 (by decide) ?_
          exact ⟨by unfold xf_36; first | (simp only [if_neg h1, if_pos h2, if_neg h3, if_pos h4]; done) | rfl, by rfl⟩
      · skip
        refine rs_aload_n ri_36_41 rfl rfl ?_
        refine rs_gf (v := .ref 5) ri_36_42 rfl (by decide) (ro_kf (kd_4 hL)) rfl (rf_4_0 hL) ?_
        refine rs_aload_n ri_36_45 rfl rfl ?_
        refine rs_gf (v := .ref 5) ri_36_46 rfl (by decide) (ro_kf (kd_4 hL)) rfl (rf_4_0 hL) ?_
        refine rs_gf (v := .ref 6) ri_36_49 rfl (by decide) (ro_kf (kd_5 hL)) rfl (rf_5_0 hL) ?_
        refine rs_iload_n ri_36_52 rfl rfl ?_
        refine rs_virt (As := [.ref 6, .int v1]) (r := []) ri_36_53 rfl (by decide) rm_37.2.2.2 rm_37.2.2.1 rfl rfl rfl (by decide) (ro_kf (kd_5 hL)) (Nat.le_of_ble_eq_true rfl) (by decide) (by decide) (xs_37 (X := X) hL (by unfold ro_ip; decide)) ?_
        rintro _ _ ⟨e1, e2⟩
        rw [e1, e2]
        show ro_w X _ 36 _ 56 [(0, .ref 4), (1, .int v1), (2, .int v2)] [.int (xf_37 M 6 v1)] M (0, 0)
        refine rs_iret ri_36_56 rm_36.2.1 (by decide) ?_
        exact ⟨by unfold xf_36; first | (simp only [if_neg h1, if_pos h2, if_pos h3]; done) | rfl, by rfl⟩
    · skip
      refine rs_iconst (v := (-1 : Int32)) ri_36_33 rfl (by decide) ?_
      refine rs_iret ri_36_34 rm_36.2.1 (by decide) ?_
      exact ⟨by unfold xf_36; first | (simp only [if_neg h1, if_neg h2]; done) | rfl, by rfl⟩
  · skip
    refine rs_aload_n ri_36_12 rfl rfl ?_
    refine rs_gf (v := .ref 5) ri_36_13 rfl (by decide) (ro_kf (kd_4 hL)) rfl (rf_4_0 hL) ?_
    refine rs_iload_n ri_36_16 rfl rfl ?_
    refine rs_iload_n ri_36_17 rfl rfl ?_
    refine rs_virt (As := [.int v1, .int v2]) (r := []) ri_36_18 rfl (by decide) rm_30.2.2.2 rm_30.2.2.1 rfl rfl rfl (by decide) (ro_kf (kd_5 hL)) (Nat.le_of_ble_eq_true rfl) (by decide) (by decide) (xs_30 (X := X) hL) ?_
    rintro _ _ ⟨e1, e2⟩
    rw [e1, e2]
    show ro_w X _ 36 _ 21 [(0, .ref 4), (1, .int v1), (2, .int v2)] [.int (xf_30 M v1 v2)] M (0, 0)
    refine rs_iret ri_36_21 rm_36.2.1 (by decide) ?_
    exact ⟨by unfold xf_36; first | (simp only [if_pos h1]; done) | rfl, by rfl⟩
/-- RefusedOnce.put(IIJ)I -/
def xf_179 (M : ro_Mm) (v1 : Int32) (v2 : Int32) (v3 : Int64) : Int32 := (if ro_bs v1 then (if (xf_180 M (ro_sc v1)) then (if (xf_181 M (ro_sc v1) v2 v3) then (1 : Int32) else (-13 : Int32)) else (xf_65 M (ro_sc v1))) else (-1 : Int32))
def xm_179 (M : ro_Mm) (v1 : Int32) (v2 : Int32) (v3 : Int64) : ro_Mm := (if ro_bs v1 then (if (xf_180 M (ro_sc v1)) then (xm_181 M (ro_sc v1) v2 v3) else M) else M)
theorem xs_179 {X : ro_Sx} {M : ro_Mm} {v1 : Int32} {v2 : Int32} {v3 : Int64} (hL : ro_lay M) : ro_cwp X 3 179 [.ref 4, .int v1, .int v2, .long v3] M (fun v M2 => v = some (.int (xf_179 M v1 v2 v3)) ∧ M2 = xm_179 M v1 v2 v3) := by
  refine rs_begin (lv0 := [(0, .ref 4), (1, .int v1), (2, .int v2), (3, .long v3)]) (by decide) rfl (by rw [rm_179.1]; exact Nat.le_of_ble_eq_true rfl) rfl ?_
  refine rs_aload_n ri_179_0 rfl rfl ?_
  refine rs_iload_n ri_179_1 rfl rfl ?_
  by_cases h1 : ro_bs v1 = true
  · skip
    refine rs_virt (As := [.int v1]) (r := []) ri_179_2 rfl (by decide) rm_20.2.2.2 rm_20.2.2.1 rfl rfl rfl (by decide) (ro_kf (kd_4 hL)) (Nat.le_of_ble_eq_true rfl) (by decide) (by decide) (xs_20_t hL h1) ?_
    rintro _ _ ⟨e1, e2⟩
    rw [e1, e2]
    show ro_w X _ 179 _ 5 [(0, .ref 4), (1, .int v1), (2, .int v2), (3, .long v3)] [.ref (ro_sc v1)] M (0, 0)
    refine rs_astore (lv2 := [(5, .ref (ro_sc v1)), (0, .ref 4), (1, .int v1), (2, .int v2), (3, .long v3)]) ri_179_5 rfl rm_179.1 (by decide) rfl ?_
    refine rs_aload ri_179_7 rfl rfl ?_
    refine rs_ifnonnull (t := 14) ri_179_9 rfl ?_
    refine rs_aload ri_179_14 rfl rfl ?_
    refine rs_virt (As := []) (r := []) ri_179_16 rfl (by decide) rm_180.2.2.2 rm_180.2.2.1 rfl rfl rfl (ro_is4 (ro_sc_is v1)) (ro_kf (is_kd hL (ro_sc_is v1))) (Nat.le_of_ble_eq_true rfl) (by decide) (by decide) (xs_180 (X := X) hL (ro_sc_is v1)) ?_
    rintro _ _ ⟨e1, e2⟩
    rw [e1, e2]
    show ro_w X _ 179 _ 19 [(5, .ref (ro_sc v1)), (0, .ref 4), (1, .int v1), (2, .int v2), (3, .long v3)] [.int (ro_b (xf_180 M (ro_sc v1)))] M (0, 0)
    refine rs_ifne_c (t := 28) ri_179_19 rfl rfl (fun h2 => ?_) (fun h2 => ?_)
    · skip
      refine rs_aload ri_179_28 rfl rfl ?_
      refine rs_iload_n ri_179_30 rfl rfl ?_
      refine rs_lload_n ri_179_31 rfl rfl ?_
      refine rs_virt (As := [.int v2, .long v3]) (r := []) ri_179_32 rfl (by decide) rm_181.2.2.2 rm_181.2.2.1 rfl rfl rfl (ro_is4 (ro_sc_is v1)) (ro_kf (is_kd hL (ro_sc_is v1))) (Nat.le_of_ble_eq_true rfl) (by decide) (by decide) (xs_181 (X := X) hL (ro_sc_is v1)) ?_
      rintro _ _ ⟨e1, e2⟩
      rw [e1, e2]
      show ro_w X _ 179 _ 35 [(5, .ref (ro_sc v1)), (0, .ref 4), (1, .int v1), (2, .int v2), (3, .long v3)] [.int (ro_b (xf_181 M (ro_sc v1) v2 v3))] (xm_181 M (ro_sc v1) v2 v3) (0, 0)
      refine rs_ifeq_c (t := 42) ri_179_35 rfl rfl (fun h3 => ?_) (fun h3 => ?_)
      · skip
        refine rs_bipush (v := (-13 : Int32)) ri_179_42 rfl (by decide) ?_
        refine rs_iret ri_179_44 rm_179.2.1 (by decide) ?_
        exact ⟨by unfold xf_179; first | (simp only [if_pos h1, if_pos h2, if_neg h3]; done) | rfl, by unfold xm_179; first | (simp only [if_pos h1, if_pos h2, if_neg h3]; done) | rfl⟩
      · skip
        refine rs_iconst (v := (1 : Int32)) ri_179_38 rfl (by decide) ?_
        refine rs_goto (t := 44) ri_179_39 rfl ?_
        refine rs_iret ri_179_44 rm_179.2.1 (by decide) ?_
        exact ⟨by unfold xf_179; first | (simp only [if_pos h1, if_pos h2, if_pos h3]; done) | rfl, by unfold xm_179; first | (simp only [if_pos h1, if_pos h2, if_pos h3]; done) | rfl⟩
    · skip
      refine rs_aload ri_179_22 rfl rfl ?_
      refine rs_virt (As := []) (r := []) ri_179_24 rfl (by decide) rm_65.2.2.2 rm_65.2.2.1 rfl rfl rfl (ro_is4 (ro_sc_is v1)) (ro_kf (is_kd hL (ro_sc_is v1))) (Nat.le_of_ble_eq_true rfl) (by decide) (by decide) (xs_65 (X := X) hL (ro_sc_is v1)) ?_
      rintro _ _ ⟨e1, e2⟩
      rw [e1, e2]
      show ro_w X _ 179 _ 27 [(5, .ref (ro_sc v1)), (0, .ref 4), (1, .int v1), (2, .int v2), (3, .long v3)] [.int (xf_65 M (ro_sc v1))] M (0, 0)
      refine rs_iret ri_179_27 rm_179.2.1 (by decide) ?_
      exact ⟨by unfold xf_179; first | (simp only [if_pos h1, if_neg h2]; done) | rfl, by unfold xm_179; first | (simp only [if_pos h1, if_neg h2]; done) | rfl⟩
  · skip
    refine rs_virt (As := [.int v1]) (r := []) ri_179_2 rfl (by decide) rm_20.2.2.2 rm_20.2.2.1 rfl rfl rfl (by decide) (ro_kf (kd_4 hL)) (Nat.le_of_ble_eq_true rfl) (by decide) (by decide) (xs_20_f hL h1) ?_
    rintro _ _ ⟨e1, e2⟩
    rw [e1, e2]
    show ro_w X _ 179 _ 5 [(0, .ref 4), (1, .int v1), (2, .int v2), (3, .long v3)] [.null] M (0, 0)
    refine rs_astoreN (lv2 := [(5, .null), (0, .ref 4), (1, .int v1), (2, .int v2), (3, .long v3)]) ri_179_5 rfl rm_179.1 (by decide) rfl ?_
    refine rs_aloadN ri_179_7 rfl rfl ?_
    refine rs_ifnonnullN (t := 14) ri_179_9 rfl rfl ?_
    refine rs_iconst (v := (-1 : Int32)) ri_179_12 rfl (by decide) ?_
    refine rs_iret ri_179_13 rm_179.2.1 (by decide) ?_
    exact ⟨by unfold xf_179; first | (simp only [if_neg h1]; done) | rfl, by unfold xm_179; first | (simp only [if_neg h1]; done) | rfl⟩
theorem xl_179 {M : ro_Mm} {v1 : Int32} {v2 : Int32} {v3 : Int64} (hL : ro_lay M) : ro_lay (xm_179 M v1 v2 v3) := by
  unfold xm_179
  by_cases hz : ro_bs v1
  · skip
    rw [if_pos hz]
    by_cases hz : (xf_180 M (ro_sc v1))
    · skip
      rw [if_pos hz]
      by_cases hz : (xf_181 M (ro_sc v1) v2 v3)
      · skip
        exact (xl_181 hL (ro_sc_is v1))
      · skip
        exact (xl_181 hL (ro_sc_is v1))
    · skip
      rw [if_neg hz]
      exact hL
  · skip
    rw [if_neg hz]
    exact hL
theorem xwI_179 {M : ro_Mm} {v1 : Int32} {v2 : Int32} {v3 : Int64} {c j : Nat} : (xm_179 M v1 v2 v3).2.1 c j = M.2.1 c j := by
  unfold xm_179
  by_cases hz : ro_bs v1
  · rw [if_pos hz]
    by_cases hz : (xf_180 M (ro_sc v1))
    · rw [if_pos hz]
      first | done | exact (xwI_181)
    · rw [if_neg hz]
      first | done | exact rfl
  · rw [if_neg hz]
    first | done | exact rfl
theorem xwJ_179 {M : ro_Mm} {v1 : Int32} {v2 : Int32} {v3 : Int64} {c j : Nat} (n0 : c ≠ ((ro_sc v1) + 1)) : (xm_179 M v1 v2 v3).2.2.1 c j = M.2.2.1 c j := by
  unfold xm_179
  by_cases hz : ro_bs v1
  · rw [if_pos hz]
    by_cases hz : (xf_180 M (ro_sc v1))
    · rw [if_pos hz]
      first | done | exact (xwJ_181 n0)
    · rw [if_neg hz]
      first | done | exact rfl
  · rw [if_neg hz]
    first | done | exact rfl
/-- RefusedOnceModel.beggarNotches(II)I -/
def xf_291 (M : ro_Mm) (v1 : Int32) (v2 : Int32) : Int32 := (-(xf_292 (xm_287 M (30 : Int32)) v1 v2))
def xm_291 (M : ro_Mm) (v1 : Int32) (v2 : Int32) : ro_Mm := (xm_292 (xm_287 M (30 : Int32)) v1 v2)
def xp_291 (M : ro_Mm) (v1 : Int32) (v2 : Int32) : Prop := (xp_287 M (30 : Int32) ∧ (xp_292 (xm_287 M (30 : Int32)) v1 v2 ∧ True))
theorem xl_291 {M : ro_Mm} {v1 : Int32} {v2 : Int32} (hL : ro_lay M) (hp : xp_291 M v1 v2) : ro_lay (xm_291 M v1 v2) := by
  unfold xp_291 at hp
  unfold xm_291
  obtain ⟨q0, hp⟩ := hp
  obtain ⟨q1, hp⟩ := hp
  exact (xl_292 (xl_287 hL q0) q1)
theorem xwI_291 {M : ro_Mm} {v1 : Int32} {v2 : Int32} {c j : Nat} (n0 : c ≠ 163) (n1 : c ≠ 189) : (xm_291 M v1 v2).2.1 c j = M.2.1 c j := by
  unfold xm_291
  first | done | exact (((xwI_292 n0 n1)).trans (xwI_287 n0 n1))
theorem xwJ_291 {M : ro_Mm} {v1 : Int32} {v2 : Int32} {c j : Nat} : (xm_291 M v1 v2).2.2.1 c j = M.2.2.1 c j := by
  unfold xm_291
  first | done | exact (((xwJ_292)).trans (xwJ_287))
/-- RefusedOnceModel.taking(II)I -/
def xf_293 (M : ro_Mm) (v1 : Int32) (v2 : Int32) : Int32 := (if (M.2.1 188 (v1.toNatClampNeg)) = (5 : Int32) then ((xf_294 (xm_287 M (60 : Int32)) v1 v2) - (xf_285 (xm_294 (xm_287 M (60 : Int32)) v1 v2) v1 (2 : Int32))) else (if (M.2.1 188 (v1.toNatClampNeg)) = (3 : Int32) then (xf_294 M v1 v2) else (xf_295 M v1 v2)))
def xm_293 (M : ro_Mm) (v1 : Int32) (v2 : Int32) : ro_Mm := (if (M.2.1 188 (v1.toNatClampNeg)) = (5 : Int32) then (xm_285 (xm_294 (xm_287 M (60 : Int32)) v1 v2) v1 (2 : Int32)) else (if (M.2.1 188 (v1.toNatClampNeg)) = (3 : Int32) then (xm_294 M v1 v2) else (xm_295 M v1 v2)))
def xp_293 (M : ro_Mm) (v1 : Int32) (v2 : Int32) : Prop := (vp_in v1 50 ∧ (((M.2.1 188 (v1.toNatClampNeg)) = (5 : Int32) → (xp_287 M (60 : Int32) ∧ (xp_294 (xm_287 M (60 : Int32)) v1 v2 ∧ (xp_285 (xm_294 (xm_287 M (60 : Int32)) v1 v2) v1 (2 : Int32) ∧ True)))) ∧ (¬ ((M.2.1 188 (v1.toNatClampNeg)) = (5 : Int32)) → (vp_in v1 50 ∧ (((M.2.1 188 (v1.toNatClampNeg)) = (3 : Int32) → (xp_294 M v1 v2 ∧ True)) ∧ (¬ ((M.2.1 188 (v1.toNatClampNeg)) = (3 : Int32)) → (xp_295 M v1 v2 ∧ True)))))))
theorem xl_293 {M : ro_Mm} {v1 : Int32} {v2 : Int32} (hL : ro_lay M) (hp : xp_293 M v1 v2) : ro_lay (xm_293 M v1 v2) := by
  unfold xp_293 at hp
  unfold xm_293
  obtain ⟨q0, hp⟩ := hp
  by_cases hz : (M.2.1 188 (v1.toNatClampNeg)) = (5 : Int32)
  · have hp := hp.1 hz
    rw [if_pos hz]
    obtain ⟨q6, hp⟩ := hp
    obtain ⟨q7, hp⟩ := hp
    obtain ⟨q8, hp⟩ := hp
    exact (xl_285 (xl_294 (xl_287 hL q6) q7) q8)
  · have hp := hp.2 hz
    rw [if_neg hz]
    obtain ⟨q2, hp⟩ := hp
    by_cases hz : (M.2.1 188 (v1.toNatClampNeg)) = (3 : Int32)
    · have hp := hp.1 hz
      rw [if_pos hz]
      obtain ⟨q5, hp⟩ := hp
      exact (xl_294 hL q5)
    · have hp := hp.2 hz
      rw [if_neg hz]
      obtain ⟨q4, hp⟩ := hp
      exact (xl_295 hL q4)
theorem xwI_293 {M : ro_Mm} {v1 : Int32} {v2 : Int32} {c j : Nat} (n0 : c ≠ 163) (n1 : c ≠ 189) : (xm_293 M v1 v2).2.1 c j = M.2.1 c j := by
  unfold xm_293
  by_cases hz : (M.2.1 188 (v1.toNatClampNeg)) = (5 : Int32)
  · rw [if_pos hz]
    first | done | exact ((((xwI_285 n0 n1)).trans (xwI_294 n0 n1)).trans (xwI_287 n0 n1))
  · rw [if_neg hz]
    by_cases hz : (M.2.1 188 (v1.toNatClampNeg)) = (3 : Int32)
    · rw [if_pos hz]
      first | done | exact (xwI_294 n0 n1)
    · rw [if_neg hz]
      first | done | exact (xwI_295 n0 n1)
theorem xwJ_293 {M : ro_Mm} {v1 : Int32} {v2 : Int32} {c j : Nat} : (xm_293 M v1 v2).2.2.1 c j = M.2.2.1 c j := by
  unfold xm_293
  by_cases hz : (M.2.1 188 (v1.toNatClampNeg)) = (5 : Int32)
  · rw [if_pos hz]
    first | done | exact ((((xwJ_285)).trans (xwJ_294)).trans (xwJ_287))
  · rw [if_neg hz]
    by_cases hz : (M.2.1 188 (v1.toNatClampNeg)) = (3 : Int32)
    · rw [if_pos hz]
      first | done | exact (xwJ_294)
    · rw [if_neg hz]
      first | done | exact (xwJ_295)
/-- RefusedOnceModel.notching(II)I -/
def xf_290 (M : ro_Mm) (v1 : Int32) (v2 : Int32) : Int32 := (if (xf_286 M (M.2.1 188 (v1.toNatClampNeg)) (3 : Int32)) then (xf_291 (xm_287 M (41 : Int32)) v1 (v2 + (1 : Int32))) else (if (M.2.1 188 (v1.toNatClampNeg)) = (7 : Int32) then ((xf_292 (xm_287 M (80 : Int32)) v1 v2) + (xf_293 (xm_292 (xm_287 M (80 : Int32)) v1 v2) v1 (2 : Int32))) else (if (M.2.1 188 (v1.toNatClampNeg)) = (2 : Int32) then (xf_291 M v1 v2) else (xf_292 M v1 v2))))
def xm_290 (M : ro_Mm) (v1 : Int32) (v2 : Int32) : ro_Mm := (if (xf_286 M (M.2.1 188 (v1.toNatClampNeg)) (3 : Int32)) then (xm_291 (xm_287 M (41 : Int32)) v1 (v2 + (1 : Int32))) else (if (M.2.1 188 (v1.toNatClampNeg)) = (7 : Int32) then (xm_293 (xm_292 (xm_287 M (80 : Int32)) v1 v2) v1 (2 : Int32)) else (if (M.2.1 188 (v1.toNatClampNeg)) = (2 : Int32) then (xm_291 M v1 v2) else (xm_292 M v1 v2))))
def xp_290 (M : ro_Mm) (v1 : Int32) (v2 : Int32) : Prop := (vp_in v1 50 ∧ (((xf_286 M (M.2.1 188 (v1.toNatClampNeg)) (3 : Int32)) → (xp_287 M (41 : Int32) ∧ (xp_291 (xm_287 M (41 : Int32)) v1 (v2 + (1 : Int32)) ∧ True))) ∧ (¬ ((xf_286 M (M.2.1 188 (v1.toNatClampNeg)) (3 : Int32))) → (vp_in v1 50 ∧ (((M.2.1 188 (v1.toNatClampNeg)) = (7 : Int32) → (xp_287 M (80 : Int32) ∧ (xp_292 (xm_287 M (80 : Int32)) v1 v2 ∧ (xp_293 (xm_292 (xm_287 M (80 : Int32)) v1 v2) v1 (2 : Int32) ∧ True)))) ∧ (¬ ((M.2.1 188 (v1.toNatClampNeg)) = (7 : Int32)) → (vp_in v1 50 ∧ (((M.2.1 188 (v1.toNatClampNeg)) = (2 : Int32) → (xp_291 M v1 v2 ∧ True)) ∧ (¬ ((M.2.1 188 (v1.toNatClampNeg)) = (2 : Int32)) → (xp_292 M v1 v2 ∧ True))))))))))
theorem xl_290 {M : ro_Mm} {v1 : Int32} {v2 : Int32} (hL : ro_lay M) (hp : xp_290 M v1 v2) : ro_lay (xm_290 M v1 v2) := by
  unfold xp_290 at hp
  unfold xm_290
  obtain ⟨q0, hp⟩ := hp
  by_cases hz : (xf_286 M (M.2.1 188 (v1.toNatClampNeg)) (3 : Int32))
  · have hp := hp.1 hz
    rw [if_pos hz]
    obtain ⟨q11, hp⟩ := hp
    obtain ⟨q12, hp⟩ := hp
    exact (xl_291 (xl_287 hL q11) q12)
  · have hp := hp.2 hz
    rw [if_neg hz]
    obtain ⟨q2, hp⟩ := hp
    by_cases hz : (M.2.1 188 (v1.toNatClampNeg)) = (7 : Int32)
    · have hp := hp.1 hz
      rw [if_pos hz]
      obtain ⟨q8, hp⟩ := hp
      obtain ⟨q9, hp⟩ := hp
      obtain ⟨q10, hp⟩ := hp
      exact (xl_293 (xl_292 (xl_287 hL q8) q9) q10)
    · have hp := hp.2 hz
      rw [if_neg hz]
      obtain ⟨q4, hp⟩ := hp
      by_cases hz : (M.2.1 188 (v1.toNatClampNeg)) = (2 : Int32)
      · have hp := hp.1 hz
        rw [if_pos hz]
        obtain ⟨q7, hp⟩ := hp
        exact (xl_291 hL q7)
      · have hp := hp.2 hz
        rw [if_neg hz]
        obtain ⟨q6, hp⟩ := hp
        exact (xl_292 hL q6)
theorem xwI_290 {M : ro_Mm} {v1 : Int32} {v2 : Int32} {c j : Nat} (n0 : c ≠ 163) (n1 : c ≠ 189) : (xm_290 M v1 v2).2.1 c j = M.2.1 c j := by
  unfold xm_290
  by_cases hz : (xf_286 M (M.2.1 188 (v1.toNatClampNeg)) (3 : Int32))
  · rw [if_pos hz]
    first | done | exact (((xwI_291 n0 n1)).trans (xwI_287 n0 n1))
  · rw [if_neg hz]
    by_cases hz : (M.2.1 188 (v1.toNatClampNeg)) = (7 : Int32)
    · rw [if_pos hz]
      first | done | exact ((((xwI_293 n0 n1)).trans (xwI_292 n0 n1)).trans (xwI_287 n0 n1))
    · rw [if_neg hz]
      by_cases hz : (M.2.1 188 (v1.toNatClampNeg)) = (2 : Int32)
      · rw [if_pos hz]
        first | done | exact (xwI_291 n0 n1)
      · rw [if_neg hz]
        first | done | exact (xwI_292 n0 n1)
theorem xwJ_290 {M : ro_Mm} {v1 : Int32} {v2 : Int32} {c j : Nat} : (xm_290 M v1 v2).2.2.1 c j = M.2.2.1 c j := by
  unfold xm_290
  by_cases hz : (xf_286 M (M.2.1 188 (v1.toNatClampNeg)) (3 : Int32))
  · rw [if_pos hz]
    first | done | exact (((xwJ_291)).trans (xwJ_287))
  · rw [if_neg hz]
    by_cases hz : (M.2.1 188 (v1.toNatClampNeg)) = (7 : Int32)
    · rw [if_pos hz]
      first | done | exact ((((xwJ_293)).trans (xwJ_292)).trans (xwJ_287))
    · rw [if_neg hz]
      by_cases hz : (M.2.1 188 (v1.toNatClampNeg)) = (2 : Int32)
      · rw [if_pos hz]
        first | done | exact (xwJ_291)
      · rw [if_neg hz]
        first | done | exact (xwJ_292)
/-- RefusedOnceModel.plainTells(II)I -/
def xf_297 (M : ro_Mm) (v1 : Int32) (v2 : Int32) : Int32 := ((xf_290 (xm_287 M (2 : Int32)) v1 v2) - (xf_293 (xm_290 (xm_287 M (2 : Int32)) v1 v2) v1 (1 : Int32)))
def xm_297 (M : ro_Mm) (v1 : Int32) (v2 : Int32) : ro_Mm := (xm_293 (xm_290 (xm_287 M (2 : Int32)) v1 v2) v1 (1 : Int32))
def xp_297 (M : ro_Mm) (v1 : Int32) (v2 : Int32) : Prop := (xp_287 M (2 : Int32) ∧ (xp_290 (xm_287 M (2 : Int32)) v1 v2 ∧ (xp_293 (xm_290 (xm_287 M (2 : Int32)) v1 v2) v1 (1 : Int32) ∧ True)))
theorem xl_297 {M : ro_Mm} {v1 : Int32} {v2 : Int32} (hL : ro_lay M) (hp : xp_297 M v1 v2) : ro_lay (xm_297 M v1 v2) := by
  unfold xp_297 at hp
  unfold xm_297
  obtain ⟨q0, hp⟩ := hp
  obtain ⟨q1, hp⟩ := hp
  obtain ⟨q2, hp⟩ := hp
  exact (xl_293 (xl_290 (xl_287 hL q0) q1) q2)
theorem xwI_297 {M : ro_Mm} {v1 : Int32} {v2 : Int32} {c j : Nat} (n0 : c ≠ 163) (n1 : c ≠ 189) : (xm_297 M v1 v2).2.1 c j = M.2.1 c j := by
  unfold xm_297
  first | done | exact ((((xwI_293 n0 n1)).trans (xwI_290 n0 n1)).trans (xwI_287 n0 n1))
theorem xwJ_297 {M : ro_Mm} {v1 : Int32} {v2 : Int32} {c j : Nat} : (xm_297 M v1 v2).2.2.1 c j = M.2.2.1 c j := by
  unfold xm_297
  first | done | exact ((((xwJ_293)).trans (xwJ_290)).trans (xwJ_287))
/-- RefusedOnceModel.telling(II)I -/
def xf_296 (M : ro_Mm) (v1 : Int32) (v2 : Int32) : Int32 := (if (M.2.1 188 (v1.toNatClampNeg)) = (4 : Int32) then ((xf_297 (xm_287 M (50 : Int32)) v1 v2) ^^^ (5 : Int32)) else (if (M.2.1 188 (v1.toNatClampNeg)) = (5 : Int32) then ((xf_297 (xm_287 M (61 : Int32)) v1 v2) + (1 : Int32)) else (xf_297 M v1 v2)))
def xm_296 (M : ro_Mm) (v1 : Int32) (v2 : Int32) : ro_Mm := (if (M.2.1 188 (v1.toNatClampNeg)) = (4 : Int32) then (xm_297 (xm_287 M (50 : Int32)) v1 v2) else (if (M.2.1 188 (v1.toNatClampNeg)) = (5 : Int32) then (xm_297 (xm_287 M (61 : Int32)) v1 v2) else (xm_297 M v1 v2)))
def xp_296 (M : ro_Mm) (v1 : Int32) (v2 : Int32) : Prop := (vp_in v1 50 ∧ (((M.2.1 188 (v1.toNatClampNeg)) = (4 : Int32) → (xp_287 M (50 : Int32) ∧ (xp_297 (xm_287 M (50 : Int32)) v1 v2 ∧ True))) ∧ (¬ ((M.2.1 188 (v1.toNatClampNeg)) = (4 : Int32)) → (vp_in v1 50 ∧ (((M.2.1 188 (v1.toNatClampNeg)) = (5 : Int32) → (xp_287 M (61 : Int32) ∧ (xp_297 (xm_287 M (61 : Int32)) v1 v2 ∧ True))) ∧ (¬ ((M.2.1 188 (v1.toNatClampNeg)) = (5 : Int32)) → (xp_297 M v1 v2 ∧ True)))))))
theorem xl_296 {M : ro_Mm} {v1 : Int32} {v2 : Int32} (hL : ro_lay M) (hp : xp_296 M v1 v2) : ro_lay (xm_296 M v1 v2) := by
  unfold xp_296 at hp
  unfold xm_296
  obtain ⟨q0, hp⟩ := hp
  by_cases hz : (M.2.1 188 (v1.toNatClampNeg)) = (4 : Int32)
  · have hp := hp.1 hz
    rw [if_pos hz]
    obtain ⟨q7, hp⟩ := hp
    obtain ⟨q8, hp⟩ := hp
    exact (xl_297 (xl_287 hL q7) q8)
  · have hp := hp.2 hz
    rw [if_neg hz]
    obtain ⟨q2, hp⟩ := hp
    by_cases hz : (M.2.1 188 (v1.toNatClampNeg)) = (5 : Int32)
    · have hp := hp.1 hz
      rw [if_pos hz]
      obtain ⟨q5, hp⟩ := hp
      obtain ⟨q6, hp⟩ := hp
      exact (xl_297 (xl_287 hL q5) q6)
    · have hp := hp.2 hz
      rw [if_neg hz]
      obtain ⟨q4, hp⟩ := hp
      exact (xl_297 hL q4)
theorem xwI_296 {M : ro_Mm} {v1 : Int32} {v2 : Int32} {c j : Nat} (n0 : c ≠ 163) (n1 : c ≠ 189) : (xm_296 M v1 v2).2.1 c j = M.2.1 c j := by
  unfold xm_296
  by_cases hz : (M.2.1 188 (v1.toNatClampNeg)) = (4 : Int32)
  · rw [if_pos hz]
    first | done | exact (((xwI_297 n0 n1)).trans (xwI_287 n0 n1))
  · rw [if_neg hz]
    by_cases hz : (M.2.1 188 (v1.toNatClampNeg)) = (5 : Int32)
    · rw [if_pos hz]
      first | done | exact (((xwI_297 n0 n1)).trans (xwI_287 n0 n1))
    · rw [if_neg hz]
      first | done | exact (xwI_297 n0 n1)
theorem xwJ_296 {M : ro_Mm} {v1 : Int32} {v2 : Int32} {c j : Nat} : (xm_296 M v1 v2).2.2.1 c j = M.2.2.1 c j := by
  unfold xm_296
  by_cases hz : (M.2.1 188 (v1.toNatClampNeg)) = (4 : Int32)
  · rw [if_pos hz]
    first | done | exact (((xwJ_297)).trans (xwJ_287))
  · rw [if_neg hz]
    by_cases hz : (M.2.1 188 (v1.toNatClampNeg)) = (5 : Int32)
    · rw [if_pos hz]
      first | done | exact (((xwJ_297)).trans (xwJ_287))
    · rw [if_neg hz]
      first | done | exact (xwJ_297)
/-- RefusedOnceModel.act(III)I -/
def xf_283 (M : ro_Mm) (v1 : Int32) (v2 : Int32) (v3 : Int32) : Int32 := (if (xf_284 (ro_sI M 163 51 (0 : Int32)) v1) then (if (xf_195 (ro_sI M 163 51 (0 : Int32)) v2 (0 : Int32) (3 : Int32)) then (if v2 = (0 : Int32) then (xf_285 (ro_sI M 163 51 (0 : Int32)) v1 v3) else (if v2 = (1 : Int32) then (xf_290 (ro_sI M 163 51 (0 : Int32)) v1 v3) else (if v2 = (2 : Int32) then (xf_293 (ro_sI M 163 51 (0 : Int32)) v1 v3) else (xf_296 (ro_sI M 163 51 (0 : Int32)) v1 v3)))) else (0 : Int32)) else (0 : Int32))
def xm_283 (M : ro_Mm) (v1 : Int32) (v2 : Int32) (v3 : Int32) : ro_Mm := (if (xf_284 (ro_sI M 163 51 (0 : Int32)) v1) then (if (xf_195 (ro_sI M 163 51 (0 : Int32)) v2 (0 : Int32) (3 : Int32)) then (if v2 = (0 : Int32) then (xm_285 (ro_sI M 163 51 (0 : Int32)) v1 v3) else (if v2 = (1 : Int32) then (xm_290 (ro_sI M 163 51 (0 : Int32)) v1 v3) else (if v2 = (2 : Int32) then (xm_293 (ro_sI M 163 51 (0 : Int32)) v1 v3) else (xm_296 (ro_sI M 163 51 (0 : Int32)) v1 v3)))) else (ro_sI M 163 51 (0 : Int32))) else (ro_sI M 163 51 (0 : Int32)))
def xp_283 (M : ro_Mm) (v1 : Int32) (v2 : Int32) (v3 : Int32) : Prop := (((xf_284 (ro_sI M 163 51 (0 : Int32)) v1) → (((xf_195 (ro_sI M 163 51 (0 : Int32)) v2 (0 : Int32) (3 : Int32)) → ((v2 = (0 : Int32) → (xp_285 (ro_sI M 163 51 (0 : Int32)) v1 v3 ∧ True)) ∧ (¬ (v2 = (0 : Int32)) → ((v2 = (1 : Int32) → (xp_290 (ro_sI M 163 51 (0 : Int32)) v1 v3 ∧ True)) ∧ (¬ (v2 = (1 : Int32)) → ((v2 = (2 : Int32) → (xp_293 (ro_sI M 163 51 (0 : Int32)) v1 v3 ∧ True)) ∧ (¬ (v2 = (2 : Int32)) → (xp_296 (ro_sI M 163 51 (0 : Int32)) v1 v3 ∧ True)))))))) ∧ (¬ ((xf_195 (ro_sI M 163 51 (0 : Int32)) v2 (0 : Int32) (3 : Int32))) → True))) ∧ (¬ ((xf_284 (ro_sI M 163 51 (0 : Int32)) v1)) → True))
theorem xl_283 {M : ro_Mm} {v1 : Int32} {v2 : Int32} {v3 : Int32} (hL : ro_lay M) (hp : xp_283 M v1 v2 v3) : ro_lay (xm_283 M v1 v2 v3) := by
  unfold xp_283 at hp
  unfold xm_283
  by_cases hz : (xf_284 (ro_sI M 163 51 (0 : Int32)) v1)
  · have hp := hp.1 hz
    rw [if_pos hz]
    by_cases hz : (xf_195 (ro_sI M 163 51 (0 : Int32)) v2 (0 : Int32) (3 : Int32))
    · have hp := hp.1 hz
      rw [if_pos hz]
      by_cases hz : v2 = (0 : Int32)
      · have hp := hp.1 hz
        rw [if_pos hz]
        obtain ⟨q8, hp⟩ := hp
        exact (xl_285 hL q8)
      · have hp := hp.2 hz
        rw [if_neg hz]
        by_cases hz : v2 = (1 : Int32)
        · have hp := hp.1 hz
          rw [if_pos hz]
          obtain ⟨q7, hp⟩ := hp
          exact (xl_290 hL q7)
        · have hp := hp.2 hz
          rw [if_neg hz]
          by_cases hz : v2 = (2 : Int32)
          · have hp := hp.1 hz
            rw [if_pos hz]
            obtain ⟨q6, hp⟩ := hp
            exact (xl_293 hL q6)
          · have hp := hp.2 hz
            rw [if_neg hz]
            obtain ⟨q5, hp⟩ := hp
            exact (xl_296 hL q5)
    · have hp := hp.2 hz
      rw [if_neg hz]
      exact hL
  · have hp := hp.2 hz
    rw [if_neg hz]
    exact hL
theorem xwI_283 {M : ro_Mm} {v1 : Int32} {v2 : Int32} {v3 : Int32} {c j : Nat} (n0 : c ≠ 163) (n1 : c ≠ 189) : (xm_283 M v1 v2 v3).2.1 c j = M.2.1 c j := by
  unfold xm_283
  by_cases hz : (xf_284 (ro_sI M 163 51 (0 : Int32)) v1)
  · rw [if_pos hz]
    by_cases hz : (xf_195 (ro_sI M 163 51 (0 : Int32)) v2 (0 : Int32) (3 : Int32))
    · rw [if_pos hz]
      by_cases hz : v2 = (0 : Int32)
      · rw [if_pos hz]
        first | done | exact (((xwI_285 n0 n1)).trans (ro_sI_ne n0))
      · rw [if_neg hz]
        by_cases hz : v2 = (1 : Int32)
        · rw [if_pos hz]
          first | done | exact (((xwI_290 n0 n1)).trans (ro_sI_ne n0))
        · rw [if_neg hz]
          by_cases hz : v2 = (2 : Int32)
          · rw [if_pos hz]
            first | done | exact (((xwI_293 n0 n1)).trans (ro_sI_ne n0))
          · rw [if_neg hz]
            first | done | exact (((xwI_296 n0 n1)).trans (ro_sI_ne n0))
    · rw [if_neg hz]
      first | done | exact (ro_sI_ne n0)
  · rw [if_neg hz]
    first | done | exact (ro_sI_ne n0)
theorem xwJ_283 {M : ro_Mm} {v1 : Int32} {v2 : Int32} {v3 : Int32} {c j : Nat} : (xm_283 M v1 v2 v3).2.2.1 c j = M.2.2.1 c j := by
  unfold xm_283
  by_cases hz : (xf_284 (ro_sI M 163 51 (0 : Int32)) v1)
  · rw [if_pos hz]
    by_cases hz : (xf_195 (ro_sI M 163 51 (0 : Int32)) v2 (0 : Int32) (3 : Int32))
    · rw [if_pos hz]
      by_cases hz : v2 = (0 : Int32)
      · rw [if_pos hz]
        first | done | exact (xwJ_285)
      · rw [if_neg hz]
        by_cases hz : v2 = (1 : Int32)
        · rw [if_pos hz]
          first | done | exact (xwJ_290)
        · rw [if_neg hz]
          by_cases hz : v2 = (2 : Int32)
          · rw [if_pos hz]
            first | done | exact (xwJ_293)
          · rw [if_neg hz]
            first | done | exact (xwJ_296)
    · rw [if_neg hz]
      first | done | exact rfl
  · rw [if_neg hz]
    first | done | exact rfl

