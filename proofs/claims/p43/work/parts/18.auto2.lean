/-! methods without loops: what they answer, what they leave, the rows that show it (by program, wip/whole/walk.py) -/
/-- RefusedOnce$Payings.found()I -/
def xf_91 (M : ro_Mm) : Int32 := (M.2.1 42 6)
theorem xs_91 {X : ro_Sx} {M : ro_Mm} (hL : ro_lay M) : ro_cwp X 1 91 [.ref 42] M (fun v M2 => v = some (.int (xf_91 M)) ∧ M2 = M) := by
  refine rs_begin (lv0 := [(0, .ref 42)]) (by decide) rfl (by rw [rm_91.1]; exact Nat.le_of_ble_eq_true rfl) rfl ?_
  refine rs_aload_n ri_91_0 rfl rfl ?_
  refine rs_gf (v := .int (M.2.1 42 6)) ri_91_1 rfl (by decide) (ro_kf (kd_42 hL)) rfl rfl ?_
  refine rs_iret ri_91_4 rm_91.2.1 (by decide) ?_
  exact ⟨by rfl, by rfl⟩
/-- RefusedOnce$Payings.kindAt(I)I -/
def xf_92 (M : ro_Mm) (v1 : Int32) : Int32 := (if v1 < (0 : Int32) then (0 : Int32) else (if (10 : Int32) ≤ v1 then (0 : Int32) else (((M.2.1 42 7) >>> (v1 &&& 31)) &&& (1 : Int32))))
theorem xs_92 {X : ro_Sx} {M : ro_Mm} {v1 : Int32} (hL : ro_lay M) : ro_cwp X 1 92 [.ref 42, .int v1] M (fun v M2 => v = some (.int (xf_92 M v1)) ∧ M2 = M) := by
  refine rs_begin (lv0 := [(0, .ref 42), (1, .int v1)]) (by decide) rfl (by rw [rm_92.1]; exact Nat.le_of_ble_eq_true rfl) rfl ?_
  refine rs_iload_n ri_92_0 rfl rfl ?_
  refine rs_if_lt (t := 21) ri_92_1 rfl rfl (fun h1 => ?_) (fun h1 => ?_)
  · skip
    refine rs_iconst (v := (0 : Int32)) ri_92_21 rfl (by decide) ?_
    refine rs_iret ri_92_22 rm_92.2.1 (by decide) ?_
    exact ⟨by unfold xf_92; first | (simp only [if_pos h1]; done) | rfl, by rfl⟩
  · skip
    refine rs_iload_n ri_92_4 rfl rfl ?_
    refine rs_bipush (v := (10 : Int32)) ri_92_5 rfl (by decide) ?_
    refine rs_icmp_ge (t := 21) ri_92_7 rfl rfl (fun h2 => ?_) (fun h2 => ?_)
    · skip
      refine rs_iconst (v := (0 : Int32)) ri_92_21 rfl (by decide) ?_
      refine rs_iret ri_92_22 rm_92.2.1 (by decide) ?_
      exact ⟨by unfold xf_92; first | (simp only [if_neg h1, if_pos h2]; done) | rfl, by rfl⟩
    · skip
      refine rs_aload_n ri_92_10 rfl rfl ?_
      refine rs_gf (v := .int (M.2.1 42 7)) ri_92_11 rfl (by decide) (ro_kf (kd_42 hL)) rfl rfl ?_
      refine rs_iload_n ri_92_14 rfl rfl ?_
      refine rs_ishr (r := ((M.2.1 42 7) >>> (v1 &&& 31))) ri_92_15 rfl rfl ?_
      refine rs_iconst (v := (1 : Int32)) ri_92_16 rfl (by decide) ?_
      refine rs_iand (r := (((M.2.1 42 7) >>> (v1 &&& 31)) &&& (1 : Int32))) ri_92_17 rfl rfl ?_
      refine rs_goto (t := 22) ri_92_18 rfl ?_
      refine rs_iret ri_92_22 rm_92.2.1 (by decide) ?_
      exact ⟨by unfold xf_92; first | (simp only [if_neg h1, if_neg h2]; done) | rfl, by rfl⟩
/-- RefusedOnce.isPart(I)Z -/
def xf_95 (M : ro_Mm) (v0 : Int32) : Bool := (if v0 = (0 : Int32) then true else (if v0 = (1 : Int32) then true else false))
theorem xs_95 {X : ro_Sx} {M : ro_Mm} {v0 : Int32} (hL : ro_lay M) : ro_cwp X 1 95 [.int v0] M (fun v M2 => v = some (.int (ro_b (xf_95 M v0))) ∧ M2 = M) := by
  refine rs_begin (lv0 := [(0, .int v0)]) (by decide) rfl (by rw [rm_95.1]; exact Nat.le_of_ble_eq_true rfl) rfl ?_
  refine rs_iload_n ri_95_0 rfl rfl ?_
  refine rs_if_eq (t := 9) ri_95_1 rfl rfl (fun h1 => ?_) (fun h1 => ?_)
  · skip
    refine rs_iconst (v := (1 : Int32)) ri_95_9 rfl (by decide) ?_
    refine rs_goto (t := 14) ri_95_10 rfl ?_
    refine rs_zret (p := true) ri_95_14 rm_95.2.1 (by decide) rfl ?_
    exact ⟨by unfold xf_95; first | (simp only [if_pos h1]; done) | rfl, by rfl⟩
  · skip
    refine rs_iload_n ri_95_4 rfl rfl ?_
    refine rs_iconst (v := (1 : Int32)) ri_95_5 rfl (by decide) ?_
    refine rs_icmp_ne (t := 13) ri_95_6 rfl rfl (fun h2 => ?_) (fun h2 => ?_)
    · skip
      refine rs_iconst (v := (0 : Int32)) ri_95_13 rfl (by decide) ?_
      refine rs_zret (p := false) ri_95_14 rm_95.2.1 (by decide) rfl ?_
      exact ⟨by unfold xf_95; first | (simp only [if_neg h1, if_neg h2]; done) | rfl, by rfl⟩
    · skip
      refine rs_iconst (v := (1 : Int32)) ri_95_9 rfl (by decide) ?_
      refine rs_goto (t := 14) ri_95_10 rfl ?_
      refine rs_zret (p := true) ri_95_14 rm_95.2.1 (by decide) rfl ?_
      exact ⟨by unfold xf_95; first | (simp only [if_neg h1, if_pos h2]; done) | rfl, by rfl⟩
/-- RefusedOnce$Chances.part(I)J -/
def xf_102 (M : ro_Mm) (v1 : Int32) : Int64 := (if v1 = (0 : Int32) then (M.2.2.1 48 5) else (M.2.2.1 48 6))
theorem xs_102 {X : ro_Sx} {M : ro_Mm} {v1 : Int32} (hL : ro_lay M) : ro_cwp X 1 102 [.ref 48, .int v1] M (fun v M2 => v = some (.long (xf_102 M v1)) ∧ M2 = M) := by
  refine rs_begin (lv0 := [(0, .ref 48), (1, .int v1)]) (by decide) rfl (by rw [rm_102.1]; exact Nat.le_of_ble_eq_true rfl) rfl ?_
  refine rs_iload_n ri_102_0 rfl rfl ?_
  refine rs_if_ne (t := 11) ri_102_1 rfl rfl (fun h1 => ?_) (fun h1 => ?_)
  · skip
    refine rs_aload_n ri_102_11 rfl rfl ?_
    refine rs_gf (v := .long (M.2.2.1 48 6)) ri_102_12 rfl (by decide) (ro_kf (kd_48 hL)) rfl rfl ?_
    refine rs_lret ri_102_15 rm_102.2.1 (by decide) ?_
    exact ⟨by unfold xf_102; first | (simp only [if_neg h1]; done) | rfl, by rfl⟩
  · skip
    refine rs_aload_n ri_102_4 rfl rfl ?_
    refine rs_gf (v := .long (M.2.2.1 48 5)) ri_102_5 rfl (by decide) (ro_kf (kd_48 hL)) rfl rfl ?_
    refine rs_goto (t := 15) ri_102_8 rfl ?_
    refine rs_lret ri_102_15 rm_102.2.1 (by decide) ?_
    exact ⟨by unfold xf_102; first | (simp only [if_pos h1]; done) | rfl, by rfl⟩
/-- RefusedOnce$Evening.length()I -/
def xf_121 (M : ro_Mm) : Int32 := (M.2.1 35 6)
theorem xs_121 {X : ro_Sx} {M : ro_Mm} (hL : ro_lay M) : ro_cwp X 1 121 [.ref 35] M (fun v M2 => v = some (.int (xf_121 M)) ∧ M2 = M) := by
  refine rs_begin (lv0 := [(0, .ref 35)]) (by decide) rfl (by rw [rm_121.1]; exact Nat.le_of_ble_eq_true rfl) rfl ?_
  refine rs_aload_n ri_121_0 rfl rfl ?_
  refine rs_gf (v := .int (M.2.1 35 6)) ri_121_1 rfl (by decide) (ro_kf (kd_35 hL)) rfl rfl ?_
  refine rs_iret ri_121_4 rm_121.2.1 (by decide) ?_
  exact ⟨by rfl, by rfl⟩
/-- RefusedOnce$Ways.headOf(J)I -/
def xf_132 (M : ro_Mm) (v0 : Int64) : Int32 := (((ro_lushr ((v0 ^^^ (ro_lushr v0 (32 : Int32))) * (6364136223846793005 : Int64)) (40 : Int32)).toInt32) &&& (1023 : Int32))
theorem xs_132 {X : ro_Sx} {M : ro_Mm} {v0 : Int64} (hL : ro_lay M) : ro_cwp X 1 132 [.long v0] M (fun v M2 => v = some (.int (xf_132 M v0)) ∧ M2 = M) := by
  refine rs_begin (lv0 := [(0, .long v0)]) (by decide) rfl (by rw [rm_132.1]; exact Nat.le_of_ble_eq_true rfl) rfl ?_
  refine rs_lload_n ri_132_0 rfl rfl ?_
  refine rs_lload_n ri_132_1 rfl rfl ?_
  refine rs_bipush (v := (32 : Int32)) ri_132_2 rfl (by decide) ?_
  refine rs_lushr (r := (ro_lushr v0 (32 : Int32))) ri_132_4 rfl rfl ?_
  refine rs_lxor (r := (v0 ^^^ (ro_lushr v0 (32 : Int32)))) ri_132_5 rfl rfl ?_
  refine rs_ldc2 (v := (6364136223846793005 : Int64)) ri_132_6 rfl rfl rfl ?_
  refine rs_lmul (r := ((v0 ^^^ (ro_lushr v0 (32 : Int32))) * (6364136223846793005 : Int64))) ri_132_9 rfl rfl ?_
  refine rs_lstore_n (lv2 := [(2, .long ((v0 ^^^ (ro_lushr v0 (32 : Int32))) * (6364136223846793005 : Int64))), (0, .long v0)]) ri_132_10 rfl rm_132.1 (by decide) rfl ?_
  refine rs_lload_n ri_132_11 rfl rfl ?_
  refine rs_bipush (v := (40 : Int32)) ri_132_12 rfl (by decide) ?_
  refine rs_lushr (r := (ro_lushr ((v0 ^^^ (ro_lushr v0 (32 : Int32))) * (6364136223846793005 : Int64)) (40 : Int32))) ri_132_14 rfl rfl ?_
  refine rs_l2i (r := ((ro_lushr ((v0 ^^^ (ro_lushr v0 (32 : Int32))) * (6364136223846793005 : Int64)) (40 : Int32)).toInt32)) ri_132_15 rfl rfl ?_
  refine rs_sipush (v := (1023 : Int32)) ri_132_16 rfl (by decide) ?_
  refine rs_iand (r := (((ro_lushr ((v0 ^^^ (ro_lushr v0 (32 : Int32))) * (6364136223846793005 : Int64)) (40 : Int32)).toInt32) &&& (1023 : Int32))) ri_132_19 rfl rfl ?_
  refine rs_iret ri_132_20 rm_132.2.1 (by decide) ?_
  exact ⟨by rfl, by rfl⟩
/-- RefusedOnce$Evening.drawnWhole()I -/
def xf_143 (M : ro_Mm) : Int32 := (M.2.1 35 10)
/-- RefusedOnce$Land.leads(I)V -/
def xm_145 (M : ro_Mm) (v1 : Int32) : ro_Mm := (if v1 < (0 : Int32) then M else (if (4 : Int32) ≤ v1 then M else (ro_sI M 11 (v1.toNatClampNeg) ((M.2.1 11 (v1.toNatClampNeg)) + (1 : Int32)))))
theorem xs_145 {X : ro_Sx} {M : ro_Mm} {v1 : Int32} (hL : ro_lay M) : ro_cwp X 1 145 [.ref 5, .int v1] M (fun v M2 => v = none ∧ M2 = xm_145 M v1) := by
  refine rs_begin (lv0 := [(0, .ref 5), (1, .int v1)]) (by decide) rfl (by rw [rm_145.1]; exact Nat.le_of_ble_eq_true rfl) rfl ?_
  refine rs_iload_n ri_145_0 rfl rfl ?_
  refine rs_if_lt (t := 23) ri_145_1 rfl rfl (fun h1 => ?_) (fun h1 => ?_)
  · skip
    refine rs_ret ri_145_23 rm_145.2.1 (by decide) ?_
    exact ⟨by rfl, by unfold xm_145; first | (simp only [if_pos h1]; done) | rfl⟩
  · skip
    refine rs_iload_n ri_145_4 rfl rfl ?_
    refine rs_aload_n ri_145_5 rfl rfl ?_
    refine rs_gf (v := .ref 11) ri_145_6 rfl (by decide) (ro_kf (kd_5 hL)) rfl (rf_5_3 hL) ?_
    refine rs_len (v := (4 : Int32)) ri_145_9 rfl (by decide) (kd_11 hL) (by decide) rfl ?_
    refine rs_icmp_ge (t := 23) ri_145_10 rfl rfl (fun h2 => ?_) (fun h2 => ?_)
    · skip
      refine rs_ret ri_145_23 rm_145.2.1 (by decide) ?_
      exact ⟨by rfl, by unfold xm_145; first | (simp only [if_neg h1, if_pos h2]; done) | rfl⟩
    · skip
      refine rs_aload_n ri_145_13 rfl rfl ?_
      refine rs_gf (v := .ref 11) ri_145_14 rfl (by decide) (ro_kf (kd_5 hL)) rfl (rf_5_3 hL) ?_
      refine rs_iload_n ri_145_17 rfl rfl ?_
      refine rs_dup2 ri_145_18 rfl rfl rfl ?_
      refine rs_iald (v := (M.2.1 11 (v1.toNatClampNeg))) ri_145_19 rfl (by decide) (kd_11 hL) (vp_in_iff.mpr ⟨(ro_lo1 h1), (ro_hi2 h2 (by decide))⟩) rfl ?_
      refine rs_iconst (v := (1 : Int32)) ri_145_20 rfl (by decide) ?_
      refine rs_iadd (r := ((M.2.1 11 (v1.toNatClampNeg)) + (1 : Int32))) ri_145_21 rfl rfl ?_
      refine rs_iast (j := v1.toNatClampNeg) ri_145_22 rfl (by decide) (kd_11 hL) (vp_in_iff.mpr ⟨(ro_lo1 h1), (ro_hi2 h2 (by decide))⟩) rfl ?_
      refine rs_ret ri_145_23 rm_145.2.1 (by decide) ?_
      exact ⟨by rfl, by unfold xm_145; first | (simp only [if_neg h1, if_neg h2]; done) | rfl⟩
theorem xl_145 {M : ro_Mm} {v1 : Int32} (hL : ro_lay M) : ro_lay (xm_145 M v1) := by
  unfold xm_145
  by_cases hz : v1 < (0 : Int32)
  · skip
    rw [if_pos hz]
    exact hL
  · skip
    rw [if_neg hz]
    by_cases hz : (4 : Int32) ≤ v1
    · skip
      rw [if_pos hz]
      exact hL
    · skip
      rw [if_neg hz]
      exact hL
theorem xwI_145 {M : ro_Mm} {v1 : Int32} {c j : Nat} (n0 : c ≠ 11) : (xm_145 M v1).2.1 c j = M.2.1 c j := by
  unfold xm_145
  by_cases hz : v1 < (0 : Int32)
  · rw [if_pos hz]
    first | done | exact rfl
  · rw [if_neg hz]
    by_cases hz : (4 : Int32) ≤ v1
    · rw [if_pos hz]
      first | done | exact rfl
    · rw [if_neg hz]
      first | done | exact (ro_sI_ne n0)
theorem xwJ_145 {M : ro_Mm} {v1 : Int32} {c j : Nat} : (xm_145 M v1).2.2.1 c j = M.2.2.1 c j := by
  unfold xm_145
  by_cases hz : v1 < (0 : Int32)
  · rw [if_pos hz]
    first | done | exact rfl
  · rw [if_neg hz]
    by_cases hz : (4 : Int32) ≤ v1
    · rw [if_pos hz]
      first | done | exact rfl
    · rw [if_neg hz]
      first | done | exact rfl
/-- RefusedOnce$Land.counted(I)I -/
def xf_149 (M : ro_Mm) (v1 : Int32) : Int32 := (if v1 < (0 : Int32) then (0 : Int32) else (if (4 : Int32) ≤ v1 then (0 : Int32) else (M.2.1 11 (v1.toNatClampNeg))))
theorem xs_149 {X : ro_Sx} {M : ro_Mm} {v1 : Int32} (hL : ro_lay M) : ro_cwp X 1 149 [.ref 5, .int v1] M (fun v M2 => v = some (.int (xf_149 M v1)) ∧ M2 = M) := by
  refine rs_begin (lv0 := [(0, .ref 5), (1, .int v1)]) (by decide) rfl (by rw [rm_149.1]; exact Nat.le_of_ble_eq_true rfl) rfl ?_
  refine rs_iload_n ri_149_0 rfl rfl ?_
  refine rs_if_lt (t := 22) ri_149_1 rfl rfl (fun h1 => ?_) (fun h1 => ?_)
  · skip
    refine rs_iconst (v := (0 : Int32)) ri_149_22 rfl (by decide) ?_
    refine rs_iret ri_149_23 rm_149.2.1 (by decide) ?_
    exact ⟨by unfold xf_149; first | (simp only [if_pos h1]; done) | rfl, by rfl⟩
  · skip
    refine rs_iload_n ri_149_4 rfl rfl ?_
    refine rs_aload_n ri_149_5 rfl rfl ?_
    refine rs_gf (v := .ref 11) ri_149_6 rfl (by decide) (ro_kf (kd_5 hL)) rfl (rf_5_3 hL) ?_
    refine rs_len (v := (4 : Int32)) ri_149_9 rfl (by decide) (kd_11 hL) (by decide) rfl ?_
    refine rs_icmp_ge (t := 22) ri_149_10 rfl rfl (fun h2 => ?_) (fun h2 => ?_)
    · skip
      refine rs_iconst (v := (0 : Int32)) ri_149_22 rfl (by decide) ?_
      refine rs_iret ri_149_23 rm_149.2.1 (by decide) ?_
      exact ⟨by unfold xf_149; first | (simp only [if_neg h1, if_pos h2]; done) | rfl, by rfl⟩
    · skip
      refine rs_aload_n ri_149_13 rfl rfl ?_
      refine rs_gf (v := .ref 11) ri_149_14 rfl (by decide) (ro_kf (kd_5 hL)) rfl (rf_5_3 hL) ?_
      refine rs_iload_n ri_149_17 rfl rfl ?_
      refine rs_iald (v := (M.2.1 11 (v1.toNatClampNeg))) ri_149_18 rfl (by decide) (kd_11 hL) (vp_in_iff.mpr ⟨(ro_lo1 h1), (ro_hi2 h2 (by decide))⟩) rfl ?_
      refine rs_goto (t := 23) ri_149_19 rfl ?_
      refine rs_iret ri_149_23 rm_149.2.1 (by decide) ?_
      exact ⟨by unfold xf_149; first | (simp only [if_neg h1, if_neg h2]; done) | rfl, by rfl⟩
/-- RefusedOnce$Changes.undoOn(LRefusedOnce$Land;)Z -/
def xf_155 (M : ro_Mm) : Bool := (if ((M.2.1 54 4) - (1 : Int32)) < (0 : Int32) then false else (if ((M.2.1 54 4) - (1 : Int32)) < (40 : Int32) then true else false))
def xm_155 (M : ro_Mm) : ro_Mm := (if ((M.2.1 54 4) - (1 : Int32)) < (0 : Int32) then M else (if ((M.2.1 54 4) - (1 : Int32)) < (40 : Int32) then (ro_sI (ro_sI (xm_33 M (M.2.1 55 (((M.2.1 54 4) - (1 : Int32)).toNatClampNeg)) (M.2.1 56 (((M.2.1 54 4) - (1 : Int32)).toNatClampNeg)) (M.2.1 57 (((M.2.1 54 4) - (1 : Int32)).toNatClampNeg))) 54 4 ((M.2.1 54 4) - (1 : Int32))) 54 5 ((M.2.1 54 5) + (1 : Int32))) else M))
theorem xl_155 {M : ro_Mm} (hL : ro_lay M) : ro_lay (xm_155 M) := by
  unfold xm_155
  by_cases hz : ((M.2.1 54 4) - (1 : Int32)) < (0 : Int32)
  · skip
    rw [if_pos hz]
    exact hL
  · skip
    rw [if_neg hz]
    by_cases hz : ((M.2.1 54 4) - (1 : Int32)) < (40 : Int32)
    · skip
      rw [if_pos hz]
      exact (xl_33 hL)
    · skip
      rw [if_neg hz]
      exact hL
theorem xwI_155 {M : ro_Mm} {c j : Nat} (n0 : c ≠ 7) (n1 : c ≠ 8) (n2 : c ≠ 9) (n3 : c ≠ 10) (n4 : c ≠ 5) (n5 : c ≠ 54) : (xm_155 M).2.1 c j = M.2.1 c j := by
  unfold xm_155
  by_cases hz : ((M.2.1 54 4) - (1 : Int32)) < (0 : Int32)
  · rw [if_pos hz]
    first | done | exact rfl
  · rw [if_neg hz]
    by_cases hz : ((M.2.1 54 4) - (1 : Int32)) < (40 : Int32)
    · rw [if_pos hz]
      first | done | exact ((((ro_sI_ne n5)).trans (ro_sI_ne n5)).trans (xwI_33 n0 n1 n2 n3 n4))
    · rw [if_neg hz]
      first | done | exact rfl
theorem xwJ_155 {M : ro_Mm} {c j : Nat} : (xm_155 M).2.2.1 c j = M.2.2.1 c j := by
  unfold xm_155
  by_cases hz : ((M.2.1 54 4) - (1 : Int32)) < (0 : Int32)
  · rw [if_pos hz]
    first | done | exact rfl
  · rw [if_neg hz]
    by_cases hz : ((M.2.1 54 4) - (1 : Int32)) < (40 : Int32)
    · rw [if_pos hz]
      first | done | exact (xwJ_33)
    · rw [if_neg hz]
      first | done | exact rfl
/-- RefusedOnce$Changes.mayBeUndone()I -/
def xf_156 (M : ro_Mm) : Int32 := (M.2.1 54 4)
theorem xs_156 {X : ro_Sx} {M : ro_Mm} (hL : ro_lay M) : ro_cwp X 1 156 [.ref 54] M (fun v M2 => v = some (.int (xf_156 M)) ∧ M2 = M) := by
  refine rs_begin (lv0 := [(0, .ref 54)]) (by decide) rfl (by rw [rm_156.1]; exact Nat.le_of_ble_eq_true rfl) rfl ?_
  refine rs_aload_n ri_156_0 rfl rfl ?_
  refine rs_gf (v := .int (M.2.1 54 4)) ri_156_1 rfl (by decide) (ro_kf (kd_54 hL)) rfl rfl ?_
  refine rs_iret ri_156_4 rm_156.2.1 (by decide) ?_
  exact ⟨by rfl, by rfl⟩
/-- RefusedOnce$Changes.redoOn(LRefusedOnce$Land;)Z -/
def xf_158 (M : ro_Mm) : Bool := (if (M.2.1 54 5) ≤ (0 : Int32) then false else (if (M.2.1 54 4) < (0 : Int32) then false else (if (M.2.1 54 4) < (40 : Int32) then true else false)))
def xm_158 (M : ro_Mm) : ro_Mm := (if (M.2.1 54 5) ≤ (0 : Int32) then M else (if (M.2.1 54 4) < (0 : Int32) then M else (if (M.2.1 54 4) < (40 : Int32) then (ro_sI (ro_sI (xm_33 M (M.2.1 55 ((M.2.1 54 4).toNatClampNeg)) (M.2.1 56 ((M.2.1 54 4).toNatClampNeg)) (M.2.1 58 ((M.2.1 54 4).toNatClampNeg))) 54 4 ((M.2.1 54 4) + (1 : Int32))) 54 5 ((M.2.1 54 5) - (1 : Int32))) else M)))
theorem xl_158 {M : ro_Mm} (hL : ro_lay M) : ro_lay (xm_158 M) := by
  unfold xm_158
  by_cases hz : (M.2.1 54 5) ≤ (0 : Int32)
  · skip
    rw [if_pos hz]
    exact hL
  · skip
    rw [if_neg hz]
    by_cases hz : (M.2.1 54 4) < (0 : Int32)
    · skip
      rw [if_pos hz]
      exact hL
    · skip
      rw [if_neg hz]
      by_cases hz : (M.2.1 54 4) < (40 : Int32)
      · skip
        rw [if_pos hz]
        exact (xl_33 hL)
      · skip
        rw [if_neg hz]
        exact hL
theorem xwI_158 {M : ro_Mm} {c j : Nat} (n0 : c ≠ 7) (n1 : c ≠ 8) (n2 : c ≠ 9) (n3 : c ≠ 10) (n4 : c ≠ 5) (n5 : c ≠ 54) : (xm_158 M).2.1 c j = M.2.1 c j := by
  unfold xm_158
  by_cases hz : (M.2.1 54 5) ≤ (0 : Int32)
  · rw [if_pos hz]
    first | done | exact rfl
  · rw [if_neg hz]
    by_cases hz : (M.2.1 54 4) < (0 : Int32)
    · rw [if_pos hz]
      first | done | exact rfl
    · rw [if_neg hz]
      by_cases hz : (M.2.1 54 4) < (40 : Int32)
      · rw [if_pos hz]
        first | done | exact ((((ro_sI_ne n5)).trans (ro_sI_ne n5)).trans (xwI_33 n0 n1 n2 n3 n4))
      · rw [if_neg hz]
        first | done | exact rfl
theorem xwJ_158 {M : ro_Mm} {c j : Nat} : (xm_158 M).2.2.1 c j = M.2.2.1 c j := by
  unfold xm_158
  by_cases hz : (M.2.1 54 5) ≤ (0 : Int32)
  · rw [if_pos hz]
    first | done | exact rfl
  · rw [if_neg hz]
    by_cases hz : (M.2.1 54 4) < (0 : Int32)
    · rw [if_pos hz]
      first | done | exact rfl
    · rw [if_neg hz]
      by_cases hz : (M.2.1 54 4) < (40 : Int32)
      · rw [if_pos hz]
        first | done | exact (xwJ_33)
      · rw [if_neg hz]
        first | done | exact rfl
/-- RefusedOnce$Changes.mayBeRedone()I -/
def xf_159 (M : ro_Mm) : Int32 := (M.2.1 54 5)
/-- RefusedOnce$Bodies.isKind(I)Z -/
def xf_161 (M : ro_Mm) (v0 : Int32) : Bool := (if v0 < (0 : Int32) then false else (if (8 : Int32) ≤ v0 then false else true))
/-- RefusedOnce$Bodies.comes(I)Z -/
def xf_162 (M : ro_Mm) (v1 : Int32) : Bool := (if (M.2.1 59 2) < (0 : Int32) then false else (if (M.2.1 59 2) < (50 : Int32) then true else false))
def xm_162 (M : ro_Mm) (v1 : Int32) : ro_Mm := (if (M.2.1 59 2) < (0 : Int32) then M else (if (M.2.1 59 2) < (50 : Int32) then (ro_sI (ro_sI M 60 ((M.2.1 59 2).toNatClampNeg) v1) 59 2 ((M.2.1 59 2) + (1 : Int32))) else M))
theorem xl_162 {M : ro_Mm} {v1 : Int32} (hL : ro_lay M) : ro_lay (xm_162 M v1) := by
  unfold xm_162
  by_cases hz : (M.2.1 59 2) < (0 : Int32)
  · skip
    rw [if_pos hz]
    exact hL
  · skip
    rw [if_neg hz]
    by_cases hz : (M.2.1 59 2) < (50 : Int32)
    · skip
      rw [if_pos hz]
      exact hL
    · skip
      rw [if_neg hz]
      exact hL
theorem xwI_162 {M : ro_Mm} {v1 : Int32} {c j : Nat} (n0 : c ≠ 60) (n1 : c ≠ 59) : (xm_162 M v1).2.1 c j = M.2.1 c j := by
  unfold xm_162
  by_cases hz : (M.2.1 59 2) < (0 : Int32)
  · rw [if_pos hz]
    first | done | exact rfl
  · rw [if_neg hz]
    by_cases hz : (M.2.1 59 2) < (50 : Int32)
    · rw [if_pos hz]
      first | done | exact (((ro_sI_ne n1)).trans (ro_sI_ne n0))
    · rw [if_neg hz]
      first | done | exact rfl
theorem xwJ_162 {M : ro_Mm} {v1 : Int32} {c j : Nat} : (xm_162 M v1).2.2.1 c j = M.2.2.1 c j := by
  unfold xm_162
  by_cases hz : (M.2.1 59 2) < (0 : Int32)
  · rw [if_pos hz]
    first | done | exact rfl
  · rw [if_neg hz]
    by_cases hz : (M.2.1 59 2) < (50 : Int32)
    · rw [if_pos hz]
      first | done | exact rfl
    · rw [if_neg hz]
      first | done | exact rfl
/-- RefusedOnce$Bodies.howMany()I -/
def xf_163 (M : ro_Mm) : Int32 := (M.2.1 59 2)
theorem xs_163 {X : ro_Sx} {M : ro_Mm} (hL : ro_lay M) : ro_cwp X 1 163 [.ref 59] M (fun v M2 => v = some (.int (xf_163 M)) ∧ M2 = M) := by
  refine rs_begin (lv0 := [(0, .ref 59)]) (by decide) rfl (by rw [rm_163.1]; exact Nat.le_of_ble_eq_true rfl) rfl ?_
  refine rs_aload_n ri_163_0 rfl rfl ?_
  refine rs_gf (v := .int (M.2.1 59 2)) ri_163_1 rfl (by decide) (ro_kf (kd_59 hL)) rfl rfl ?_
  refine rs_iret ri_163_4 rm_163.2.1 (by decide) ?_
  exact ⟨by rfl, by rfl⟩
/-- RefusedOnce$Bodies.kindOf(I)I -/
def xf_166 (M : ro_Mm) (v1 : Int32) : Int32 := (if v1 < (0 : Int32) then (-1 : Int32) else (if (M.2.1 59 2) ≤ v1 then (-1 : Int32) else (if (50 : Int32) ≤ v1 then (-1 : Int32) else (M.2.1 60 (v1.toNatClampNeg)))))
/-- RefusedOnce$Bodies.ownBody(II)I -/
def xf_168 (M : ro_Mm) (v0 : Int32) (v1 : Int32) : Int32 := (if v0 < (0 : Int32) then (0 : Int32) else (if ((v0 * (4 : Int32)) + v1) < (0 : Int32) then (0 : Int32) else (if (32 : Int32) ≤ ((v0 * (4 : Int32)) + v1) then (0 : Int32) else (ro_xv (0, fun _ => 0) 2 ((v0 * (4 : Int32)) + v1).toNatClampNeg))))
/-- RefusedOnce$Bodies.kindAbove(I)I -/
def xf_169 (M : ro_Mm) (v0 : Int32) : Int32 := (if v0 < (0 : Int32) then (-1 : Int32) else (if (8 : Int32) ≤ v0 then (-1 : Int32) else (ro_xv (0, fun _ => 0) 3 v0.toNatClampNeg)))
/-- RefusedOnce$Bodies.begins(I)V -/
def xm_170 (M : ro_Mm) (v1 : Int32) : ro_Mm := (if (M.2.1 59 3) < (0 : Int32) then (ro_sI M 59 3 ((M.2.1 59 3) + (1 : Int32))) else (if (24 : Int32) ≤ (M.2.1 59 3) then (ro_sI M 59 3 ((M.2.1 59 3) + (1 : Int32))) else (ro_sI (ro_sI M 61 ((M.2.1 59 3).toNatClampNeg) v1) 59 3 ((M.2.1 59 3) + (1 : Int32)))))
theorem xl_170 {M : ro_Mm} {v1 : Int32} (hL : ro_lay M) : ro_lay (xm_170 M v1) := by
  unfold xm_170
  by_cases hz : (M.2.1 59 3) < (0 : Int32)
  · skip
    rw [if_pos hz]
    exact hL
  · skip
    rw [if_neg hz]
    by_cases hz : (24 : Int32) ≤ (M.2.1 59 3)
    · skip
      rw [if_pos hz]
      exact hL
    · skip
      rw [if_neg hz]
      exact hL
theorem xwI_170 {M : ro_Mm} {v1 : Int32} {c j : Nat} (n0 : c ≠ 59) (n1 : c ≠ 61) : (xm_170 M v1).2.1 c j = M.2.1 c j := by
  unfold xm_170
  by_cases hz : (M.2.1 59 3) < (0 : Int32)
  · rw [if_pos hz]
    first | done | exact (ro_sI_ne n0)
  · rw [if_neg hz]
    by_cases hz : (24 : Int32) ≤ (M.2.1 59 3)
    · rw [if_pos hz]
      first | done | exact (ro_sI_ne n0)
    · rw [if_neg hz]
      first | done | exact (((ro_sI_ne n0)).trans (ro_sI_ne n1))
theorem xwJ_170 {M : ro_Mm} {v1 : Int32} {c j : Nat} : (xm_170 M v1).2.2.1 c j = M.2.2.1 c j := by
  unfold xm_170
  by_cases hz : (M.2.1 59 3) < (0 : Int32)
  · rw [if_pos hz]
    first | done | exact rfl
  · rw [if_neg hz]
    by_cases hz : (24 : Int32) ≤ (M.2.1 59 3)
    · rw [if_pos hz]
      first | done | exact rfl
    · rw [if_neg hz]
      first | done | exact rfl
/-- RefusedOnce$Bodies.traced(I)I -/
def xf_174 (M : ro_Mm) (v1 : Int32) : Int32 := (if v1 < (0 : Int32) then (-1 : Int32) else (if (M.2.1 59 3) ≤ v1 then (-1 : Int32) else (if (24 : Int32) ≤ v1 then (-1 : Int32) else (M.2.1 61 (v1.toNatClampNeg)))))
/-- RefusedOnce$Shelf.keepBody(I)V -/
def xm_176 (M : ro_Mm) (c0 : Nat) (v1 : Int32) : ro_Mm := (if (0 : Int32) ≤ v1 then (ro_sI (ro_sI (ro_sI M c0 1 (-1 : Int32)) c0 3 v1) c0 2 (0 : Int32)) else (ro_sI (ro_sI (ro_sI M c0 1 (-2 : Int32)) c0 3 v1) c0 2 (0 : Int32)))
theorem xl_176 {M : ro_Mm} {c0 : Nat} {v1 : Int32} (hL : ro_lay M) (hc0 : ro_is c0) : ro_lay (xm_176 M c0 v1) := by
  unfold xm_176
  by_cases hz : (0 : Int32) ≤ v1
  · skip
    rw [if_pos hz]
    exact hL
  · skip
    rw [if_neg hz]
    exact hL
theorem xwI_176 {M : ro_Mm} {c0 : Nat} {v1 : Int32} {c j : Nat} (n0 : c ≠ c0) : (xm_176 M c0 v1).2.1 c j = M.2.1 c j := by
  unfold xm_176
  by_cases hz : (0 : Int32) ≤ v1
  · rw [if_pos hz]
    first | done | exact ((((ro_sI_ne n0)).trans (ro_sI_ne n0)).trans (ro_sI_ne n0))
  · rw [if_neg hz]
    first | done | exact ((((ro_sI_ne n0)).trans (ro_sI_ne n0)).trans (ro_sI_ne n0))
theorem xwJ_176 {M : ro_Mm} {c0 : Nat} {v1 : Int32} {c j : Nat} : (xm_176 M c0 v1).2.2.1 c j = M.2.2.1 c j := by
  unfold xm_176
  by_cases hz : (0 : Int32) ≤ v1
  · rw [if_pos hz]
    first | done | exact rfl
  · rw [if_neg hz]
    first | done | exact rfl
/-- RefusedOnce$Shelf.holdsRow()Z -/
def xf_180 (M : ro_Mm) (c0 : Nat) : Bool := (if (M.2.1 c0 1) < (0 : Int32) then false else true)
theorem xs_180 {X : ro_Sx} {M : ro_Mm} {c0 : Nat} (hL : ro_lay M) (hc0 : ro_is c0) : ro_cwp X 1 180 [.ref c0] M (fun v M2 => v = some (.int (ro_b (xf_180 M c0))) ∧ M2 = M) := by
  refine rs_begin (lv0 := [(0, .ref c0)]) (by decide) rfl (by rw [rm_180.1]; exact Nat.le_of_ble_eq_true rfl) rfl ?_
  refine rs_aload_n ri_180_0 rfl rfl ?_
  refine rs_gf (v := .int (M.2.1 c0 1)) ri_180_1 rfl (ro_is4 hc0) (ro_kf (is_kd hL hc0)) rfl rfl ?_
  refine rs_if_lt (t := 11) ri_180_4 rfl rfl (fun h1 => ?_) (fun h1 => ?_)
  · skip
    refine rs_iconst (v := (0 : Int32)) ri_180_11 rfl (by decide) ?_
    refine rs_zret (p := false) ri_180_12 rm_180.2.1 (by decide) rfl ?_
    exact ⟨by unfold xf_180; first | (simp only [if_pos h1]; done) | rfl, by rfl⟩
  · skip
    refine rs_iconst (v := (1 : Int32)) ri_180_7 rfl (by decide) ?_
    refine rs_goto (t := 12) ri_180_8 rfl ?_
    refine rs_zret (p := true) ri_180_12 rm_180.2.1 (by decide) rfl ?_
    exact ⟨by unfold xf_180; first | (simp only [if_neg h1]; done) | rfl, by rfl⟩
/-- RefusedOnce$Shelf.lowest(J)J -/
def xf_182 (M : ro_Mm) (c0 : Nat) (v1 : Int64) : Int64 := (if (M.2.1 c0 1) = (0 : Int32) then (((v1.toInt32).toInt8.toInt32).toInt64) else (if (M.2.1 c0 1) = (1 : Int32) then (((v1.toInt32).toInt16.toInt32).toInt64) else (if (M.2.1 c0 1) = (2 : Int32) then ((v1.toInt32).toInt64) else (if (M.2.1 c0 1) = (3 : Int32) then v1 else (if (lg_cmp v1 (0 : Int64)) = (0 : Int32) then (0 : Int64) else (1 : Int64))))))
theorem xs_182 {X : ro_Sx} {M : ro_Mm} {c0 : Nat} {v1 : Int64} (hL : ro_lay M) (hc0 : ro_is c0) : ro_cwp X 1 182 [.ref c0, .long v1] M (fun v M2 => v = some (.long (xf_182 M c0 v1)) ∧ M2 = M) := by
  refine rs_begin (lv0 := [(0, .ref c0), (1, .long v1)]) (by decide) rfl (by rw [rm_182.1]; exact Nat.le_of_ble_eq_true rfl) rfl ?_
  refine rs_aload_n ri_182_0 rfl rfl ?_
  refine rs_gf (v := .int (M.2.1 c0 1)) ri_182_1 rfl (ro_is4 hc0) (ro_kf (is_kd hL hc0)) rfl rfl ?_
  by_cases h1 : (M.2.1 c0 1) = (0 : Int32)
  · skip
    refine rs_swIn (o := 32) (t := 36) ri_182_4 (by rw [h1]; first | done | decide) (by rw [h1]; first | done | decide) (by rw [h1]; first | done | rfl) rfl ?_
    refine rs_lload_n ri_182_36 rfl rfl ?_
    refine rs_l2i (r := (v1.toInt32)) ri_182_37 rfl rfl ?_
    refine rs_i2b (r := ((v1.toInt32).toInt8.toInt32)) ri_182_38 rfl rfl ?_
    refine rs_i2l (r := (((v1.toInt32).toInt8.toInt32).toInt64)) ri_182_39 rfl rfl ?_
    refine rs_lret ri_182_40 rm_182.2.1 (by decide) ?_
    exact ⟨by unfold xf_182; first | (simp only [if_pos h1]; done) | rfl, by rfl⟩
  · skip
    by_cases h2 : (M.2.1 c0 1) = (1 : Int32)
    · skip
      refine rs_swIn (o := 37) (t := 41) ri_182_4 (by rw [h2]; first | done | decide) (by rw [h2]; first | done | decide) (by rw [h2]; first | done | rfl) rfl ?_
      refine rs_lload_n ri_182_41 rfl rfl ?_
      refine rs_l2i (r := (v1.toInt32)) ri_182_42 rfl rfl ?_
      refine rs_i2s (r := ((v1.toInt32).toInt16.toInt32)) ri_182_43 rfl rfl ?_
      refine rs_i2l (r := (((v1.toInt32).toInt16.toInt32).toInt64)) ri_182_44 rfl rfl ?_
      refine rs_lret ri_182_45 rm_182.2.1 (by decide) ?_
      exact ⟨by unfold xf_182; first | (simp only [if_neg h1, if_pos h2]; done) | rfl, by rfl⟩
    · skip
      by_cases h3 : (M.2.1 c0 1) = (2 : Int32)
      · skip
        refine rs_swIn (o := 42) (t := 46) ri_182_4 (by rw [h3]; first | done | decide) (by rw [h3]; first | done | decide) (by rw [h3]; first | done | rfl) rfl ?_
        refine rs_lload_n ri_182_46 rfl rfl ?_
        refine rs_l2i (r := (v1.toInt32)) ri_182_47 rfl rfl ?_
        refine rs_i2l (r := ((v1.toInt32).toInt64)) ri_182_48 rfl rfl ?_
        refine rs_lret ri_182_49 rm_182.2.1 (by decide) ?_
        exact ⟨by unfold xf_182; first | (simp only [if_neg h1, if_neg h2, if_pos h3]; done) | rfl, by rfl⟩
      · skip
        by_cases h4 : (M.2.1 c0 1) = (3 : Int32)
        · skip
          refine rs_swIn (o := 46) (t := 50) ri_182_4 (by rw [h4]; first | done | decide) (by rw [h4]; first | done | decide) (by rw [h4]; first | done | rfl) rfl ?_
          refine rs_lload_n ri_182_50 rfl rfl ?_
          refine rs_lret ri_182_51 rm_182.2.1 (by decide) ?_
          exact ⟨by unfold xf_182; first | (simp only [if_neg h1, if_neg h2, if_neg h3, if_pos h4]; done) | rfl, by rfl⟩
        · skip
          refine rs_swOut (t := 52) ri_182_4 (by have g0 := ro_ne_i (z := 0) h1 rfl; have g1 := ro_ne_i (z := 1) h2 rfl; have g2 := ro_ne_i (z := 2) h3 rfl; have g3 := ro_ne_i (z := 3) h4 rfl; omega) rfl ?_
          refine rs_lload_n ri_182_52 rfl rfl ?_
          refine rs_lconst (v := (0 : Int64)) ri_182_53 rfl rfl ?_
          refine rs_lcmp (r := (lg_cmp v1 (0 : Int64))) ri_182_54 rfl rfl ?_
          refine rs_if_eq (t := 62) ri_182_55 rfl rfl (fun h5 => ?_) (fun h5 => ?_)
          · skip
            refine rs_lconst (v := (0 : Int64)) ri_182_62 rfl rfl ?_
            refine rs_lret ri_182_63 rm_182.2.1 (by decide) ?_
            exact ⟨by unfold xf_182; first | (simp only [if_neg h1, if_neg h2, if_neg h3, if_neg h4, if_pos h5]; done) | rfl, by rfl⟩
          · skip
            refine rs_lconst (v := (1 : Int64)) ri_182_58 rfl rfl ?_
            refine rs_goto (t := 63) ri_182_59 rfl ?_
            refine rs_lret ri_182_63 rm_182.2.1 (by decide) ?_
            exact ⟨by unfold xf_182; first | (simp only [if_neg h1, if_neg h2, if_neg h3, if_neg h4, if_neg h5]; done) | rfl, by rfl⟩
/-- RefusedOnce.element(II)J -/
def xf_183 (M : ro_Mm) (v1 : Int32) (v2 : Int32) : Int64 := (if ro_bs v1 then (if (xf_180 M (ro_sc v1)) then (if (xf_13 M v2 (0 : Int32) ((xf_24 M (ro_sc v1)) - (1 : Int32))) then (xf_26 M (ro_sc v1) v2) else (-9223372036854775808 : Int64)) else (-9223372036854775808 : Int64)) else (-9223372036854775808 : Int64))
/-- RefusedOnce$Shelf.isLike(LRefusedOnce$Shelf;)Z -/
def xf_185 (M : ro_Mm) (c0 : Nat) (c1 : Nat) : Bool := (if (xf_180 M c0) then (if (M.2.1 c0 1) = (M.2.1 c1 1) then true else false) else false)
/-- RefusedOnce$Shelf.bodyKept()I -/
def xf_188 (M : ro_Mm) (c0 : Nat) : Int32 := (M.2.1 c0 3)
/-- RefusedOnce$Bodies.ranLately()I -/
def xf_192 (M : ro_Mm) : Int32 := (M.2.1 59 3)
theorem xs_192 {X : ro_Sx} {M : ro_Mm} (hL : ro_lay M) : ro_cwp X 1 192 [.ref 59] M (fun v M2 => v = some (.int (xf_192 M)) ∧ M2 = M) := by
  refine rs_begin (lv0 := [(0, .ref 59)]) (by decide) rfl (by rw [rm_192.1]; exact Nat.le_of_ble_eq_true rfl) rfl ?_
  refine rs_aload_n ri_192_0 rfl rfl ?_
  refine rs_gf (v := .int (M.2.1 59 3)) ri_192_1 rfl (by decide) (ro_kf (kd_59 hL)) rfl rfl ?_
  refine rs_iret ri_192_4 rm_192.2.1 (by decide) ?_
  exact ⟨by rfl, by rfl⟩
/-- RefusedOnceModel.in(III)Z -/
def xf_195 (M : ro_Mm) (v0 : Int32) (v1 : Int32) (v2 : Int32) : Bool := (if v0 < v1 then false else (if v2 < v0 then false else true))
/-- RefusedOnceModel.addOne(III)I -/
def xf_196 (M : ro_Mm) (v1 : Int32) (v2 : Int32) (v3 : Int32) : Int32 := (((M.2.1 163 1) + (1 : Int32)) - (1 : Int32))
def xm_196 (M : ro_Mm) (v1 : Int32) (v2 : Int32) (v3 : Int32) : ro_Mm := (ro_sI (ro_sI (ro_sI (ro_sI (ro_sI M 164 ((M.2.1 163 1).toNatClampNeg) v1) 165 ((M.2.1 163 1).toNatClampNeg) v2) 166 ((M.2.1 163 1).toNatClampNeg) v3) 167 ((M.2.1 163 1).toNatClampNeg) (0 : Int32)) 163 1 ((M.2.1 163 1) + (1 : Int32)))
def xp_196 (M : ro_Mm) (v1 : Int32) (v2 : Int32) (v3 : Int32) : Prop := (vp_in (M.2.1 163 1) 6 ∧ (vp_in (M.2.1 163 1) 6 ∧ (vp_in (M.2.1 163 1) 6 ∧ (vp_in (M.2.1 163 1) 6 ∧ True))))
theorem xl_196 {M : ro_Mm} {v1 : Int32} {v2 : Int32} {v3 : Int32} (hL : ro_lay M) (hp : xp_196 M v1 v2 v3) : ro_lay (xm_196 M v1 v2 v3) := by
  unfold xp_196 at hp
  unfold xm_196
  obtain ⟨q0, hp⟩ := hp
  obtain ⟨q1, hp⟩ := hp
  obtain ⟨q2, hp⟩ := hp
  obtain ⟨q3, hp⟩ := hp
  exact hL
theorem xwI_196 {M : ro_Mm} {v1 : Int32} {v2 : Int32} {v3 : Int32} {c j : Nat} (n0 : c ≠ 164) (n1 : c ≠ 165) (n2 : c ≠ 166) (n3 : c ≠ 167) (n4 : c ≠ 163) : (xm_196 M v1 v2 v3).2.1 c j = M.2.1 c j := by
  unfold xm_196
  first | done | exact ((((((ro_sI_ne n4)).trans (ro_sI_ne n3)).trans (ro_sI_ne n2)).trans (ro_sI_ne n1)).trans (ro_sI_ne n0))
theorem xwJ_196 {M : ro_Mm} {v1 : Int32} {v2 : Int32} {v3 : Int32} {c j : Nat} : (xm_196 M v1 v2 v3).2.2.1 c j = M.2.2.1 c j := by
  unfold xm_196
  first | done | exact rfl
/-- RefusedOnceModel.isShelf(I)Z -/
def xf_198 (M : ro_Mm) (v0 : Int32) : Bool := (xf_195 M v0 (0 : Int32) (5 : Int32))
/-- RefusedOnceModel.lays(III)V -/
def xm_200 (M : ro_Mm) (v1 : Int32) (v2 : Int32) (v3 : Int32) : ro_Mm := (if v1 = (0 : Int32) then (ro_sI M 164 (v2.toNatClampNeg) v3) else (if v1 = (1 : Int32) then (ro_sI M 165 (v2.toNatClampNeg) v3) else (if v1 = (2 : Int32) then (ro_sI M 166 (v2.toNatClampNeg) v3) else (if v1 = (3 : Int32) then (ro_sI M 167 (v2.toNatClampNeg) v3) else (ro_sI M 168 ((v1 - (4 : Int32)).toNatClampNeg) v3)))))
def xp_200 (M : ro_Mm) (v1 : Int32) (v2 : Int32) (v3 : Int32) : Prop := ((v1 = (0 : Int32) → (vp_in v2 6 ∧ True)) ∧ (¬ (v1 = (0 : Int32)) → ((v1 = (1 : Int32) → (vp_in v2 6 ∧ True)) ∧ (¬ (v1 = (1 : Int32)) → ((v1 = (2 : Int32) → (vp_in v2 6 ∧ True)) ∧ (¬ (v1 = (2 : Int32)) → ((v1 = (3 : Int32) → (vp_in v2 6 ∧ True)) ∧ (¬ (v1 = (3 : Int32)) → (vp_in (v1 - (4 : Int32)) 3 ∧ True)))))))))
theorem xl_200 {M : ro_Mm} {v1 : Int32} {v2 : Int32} {v3 : Int32} (hL : ro_lay M) (hp : xp_200 M v1 v2 v3) : ro_lay (xm_200 M v1 v2 v3) := by
  unfold xp_200 at hp
  unfold xm_200
  by_cases hz : v1 = (0 : Int32)
  · have hp := hp.1 hz
    rw [if_pos hz]
    obtain ⟨q1, hp⟩ := hp
    exact hL
  · have hp := hp.2 hz
    rw [if_neg hz]
    by_cases hz : v1 = (1 : Int32)
    · have hp := hp.1 hz
      rw [if_pos hz]
      obtain ⟨q3, hp⟩ := hp
      exact hL
    · have hp := hp.2 hz
      rw [if_neg hz]
      by_cases hz : v1 = (2 : Int32)
      · have hp := hp.1 hz
        rw [if_pos hz]
        obtain ⟨q5, hp⟩ := hp
        exact hL
      · have hp := hp.2 hz
        rw [if_neg hz]
        by_cases hz : v1 = (3 : Int32)
        · have hp := hp.1 hz
          rw [if_pos hz]
          obtain ⟨q7, hp⟩ := hp
          exact hL
        · have hp := hp.2 hz
          rw [if_neg hz]
          obtain ⟨q8, hp⟩ := hp
          exact hL
theorem xwI_200 {M : ro_Mm} {v1 : Int32} {v2 : Int32} {v3 : Int32} {c j : Nat} (n0 : c ≠ 164) (n1 : c ≠ 165) (n2 : c ≠ 166) (n3 : c ≠ 167) (n4 : c ≠ 168) : (xm_200 M v1 v2 v3).2.1 c j = M.2.1 c j := by
  unfold xm_200
  by_cases hz : v1 = (0 : Int32)
  · rw [if_pos hz]
    first | done | exact (ro_sI_ne n0)
  · rw [if_neg hz]
    by_cases hz : v1 = (1 : Int32)
    · rw [if_pos hz]
      first | done | exact (ro_sI_ne n1)
    · rw [if_neg hz]
      by_cases hz : v1 = (2 : Int32)
      · rw [if_pos hz]
        first | done | exact (ro_sI_ne n2)
      · rw [if_neg hz]
        by_cases hz : v1 = (3 : Int32)
        · rw [if_pos hz]
          first | done | exact (ro_sI_ne n3)
        · rw [if_neg hz]
          first | done | exact (ro_sI_ne n4)
theorem xwJ_200 {M : ro_Mm} {v1 : Int32} {v2 : Int32} {v3 : Int32} {c j : Nat} : (xm_200 M v1 v2 v3).2.2.1 c j = M.2.2.1 c j := by
  unfold xm_200
  by_cases hz : v1 = (0 : Int32)
  · rw [if_pos hz]
    first | done | exact rfl
  · rw [if_neg hz]
    by_cases hz : v1 = (1 : Int32)
    · rw [if_pos hz]
      first | done | exact rfl
    · rw [if_neg hz]
      by_cases hz : v1 = (2 : Int32)
      · rw [if_pos hz]
        first | done | exact rfl
      · rw [if_neg hz]
        by_cases hz : v1 = (3 : Int32)
        · rw [if_pos hz]
          first | done | exact rfl
        · rw [if_neg hz]
          first | done | exact rfl
/-- RefusedOnceModel.redo()I -/
def xf_201 (M : ro_Mm) : Int32 := (if (M.2.1 163 8) = (0 : Int32) then (-5 : Int32) else ((M.2.1 163 8) - (1 : Int32)))
def xm_201 (M : ro_Mm) : ro_Mm := (if (M.2.1 163 8) = (0 : Int32) then M else (ro_sI (ro_sI (xm_200 M (M.2.1 169 ((M.2.1 163 7).toNatClampNeg)) (M.2.1 170 ((M.2.1 163 7).toNatClampNeg)) (M.2.1 172 ((M.2.1 163 7).toNatClampNeg))) 163 7 ((M.2.1 163 7) + (1 : Int32))) 163 8 ((M.2.1 163 8) - (1 : Int32))))
def xp_201 (M : ro_Mm) : Prop := (((M.2.1 163 8) = (0 : Int32) → True) ∧ (¬ ((M.2.1 163 8) = (0 : Int32)) → (vp_in (M.2.1 163 7) 40 ∧ (vp_in (M.2.1 163 7) 40 ∧ (vp_in (M.2.1 163 7) 40 ∧ (xp_200 M (M.2.1 169 ((M.2.1 163 7).toNatClampNeg)) (M.2.1 170 ((M.2.1 163 7).toNatClampNeg)) (M.2.1 172 ((M.2.1 163 7).toNatClampNeg)) ∧ True))))))
theorem xl_201 {M : ro_Mm} (hL : ro_lay M) (hp : xp_201 M) : ro_lay (xm_201 M) := by
  unfold xp_201 at hp
  unfold xm_201
  by_cases hz : (M.2.1 163 8) = (0 : Int32)
  · have hp := hp.1 hz
    rw [if_pos hz]
    exact hL
  · have hp := hp.2 hz
    rw [if_neg hz]
    obtain ⟨q1, hp⟩ := hp
    obtain ⟨q2, hp⟩ := hp
    obtain ⟨q3, hp⟩ := hp
    obtain ⟨q4, hp⟩ := hp
    exact (xl_200 hL q4)
theorem xwI_201 {M : ro_Mm} {c j : Nat} (n0 : c ≠ 164) (n1 : c ≠ 165) (n2 : c ≠ 166) (n3 : c ≠ 167) (n4 : c ≠ 168) (n5 : c ≠ 163) : (xm_201 M).2.1 c j = M.2.1 c j := by
  unfold xm_201
  by_cases hz : (M.2.1 163 8) = (0 : Int32)
  · rw [if_pos hz]
    first | done | exact rfl
  · rw [if_neg hz]
    first | done | exact ((((ro_sI_ne n5)).trans (ro_sI_ne n5)).trans (xwI_200 n0 n1 n2 n3 n4))
theorem xwJ_201 {M : ro_Mm} {c j : Nat} : (xm_201 M).2.2.1 c j = M.2.2.1 c j := by
  unfold xm_201
  by_cases hz : (M.2.1 163 8) = (0 : Int32)
  · rw [if_pos hz]
    first | done | exact rfl
  · rw [if_neg hz]
    first | done | exact (xwJ_200)
/-- RefusedOnceModel.isOne(I)Z -/
def xf_204 (M : ro_Mm) (v1 : Int32) : Bool := (xf_195 M v1 (0 : Int32) ((M.2.1 163 1) - (1 : Int32)))
/-- RefusedOnceModel.mayHave(II)Z -/
def xf_205 (M : ro_Mm) (v0 : Int32) (v1 : Int32) : Bool := (if v0 = (2 : Int32) then (xf_195 M v1 (0 : Int32) (12 : Int32)) else (if v0 = (4 : Int32) then (xf_195 M v1 (0 : Int32) (4 : Int32)) else (if v0 = (5 : Int32) then (xf_195 M v1 (0 : Int32) (11 : Int32)) else (if v0 = (6 : Int32) then (xf_195 M v1 (0 : Int32) (12 : Int32)) else (xf_195 M v1 (0 : Int32) (20 : Int32))))))
/-- RefusedOnceModel.valueAt(II)I -/
def xf_207 (M : ro_Mm) (v1 : Int32) (v2 : Int32) : Int32 := (if v1 = (0 : Int32) then (M.2.1 164 (v2.toNatClampNeg)) else (if v1 = (1 : Int32) then (M.2.1 165 (v2.toNatClampNeg)) else (if v1 = (2 : Int32) then (M.2.1 166 (v2.toNatClampNeg)) else (if v1 = (3 : Int32) then (M.2.1 167 (v2.toNatClampNeg)) else (M.2.1 168 ((v1 - (4 : Int32)).toNatClampNeg))))))
def xp_207 (M : ro_Mm) (v1 : Int32) (v2 : Int32) : Prop := ((v1 = (0 : Int32) → (vp_in v2 6 ∧ True)) ∧ (¬ (v1 = (0 : Int32)) → ((v1 = (1 : Int32) → (vp_in v2 6 ∧ True)) ∧ (¬ (v1 = (1 : Int32)) → ((v1 = (2 : Int32) → (vp_in v2 6 ∧ True)) ∧ (¬ (v1 = (2 : Int32)) → ((v1 = (3 : Int32) → (vp_in v2 6 ∧ True)) ∧ (¬ (v1 = (3 : Int32)) → (vp_in (v1 - (4 : Int32)) 3 ∧ True)))))))))
/-- RefusedOnceModel.forgedOf(I)I -/
def xf_209 (M : ro_Mm) (v1 : Int32) : Int32 := (if (M.2.1 165 (v1.toNatClampNeg)) ≤ (M.2.1 167 (v1.toNatClampNeg)) then (M.2.1 165 (v1.toNatClampNeg)) else (M.2.1 167 (v1.toNatClampNeg)))
def xp_209 (M : ro_Mm) (v1 : Int32) : Prop := (vp_in v1 6 ∧ (vp_in v1 6 ∧ (((M.2.1 165 (v1.toNatClampNeg)) ≤ (M.2.1 167 (v1.toNatClampNeg)) → (vp_in v1 6 ∧ True)) ∧ (¬ ((M.2.1 165 (v1.toNatClampNeg)) ≤ (M.2.1 167 (v1.toNatClampNeg))) → (vp_in v1 6 ∧ True)))))
/-- RefusedOnceModel.feed(I)I -/
def xf_210 (M : ro_Mm) (v1 : Int32) : Int32 := (if (xf_195 M v1 (0 : Int32) (255 : Int32)) then (if (M.2.1 163 14) = (120 : Int32) then (-3 : Int32) else ((M.2.1 163 14) + (1 : Int32))) else (-1 : Int32))
def xm_210 (M : ro_Mm) (v1 : Int32) : ro_Mm := (if (xf_195 M v1 (0 : Int32) (255 : Int32)) then (if (M.2.1 163 14) = (120 : Int32) then M else (ro_sI (ro_sI M 173 ((M.2.1 163 14).toNatClampNeg) (vp_nar .byte (v1.toInt8.toInt32))) 163 14 ((M.2.1 163 14) + (1 : Int32)))) else M)
def xp_210 (M : ro_Mm) (v1 : Int32) : Prop := (((xf_195 M v1 (0 : Int32) (255 : Int32)) → (((M.2.1 163 14) = (120 : Int32) → True) ∧ (¬ ((M.2.1 163 14) = (120 : Int32)) → (vp_in (M.2.1 163 14) 120 ∧ True)))) ∧ (¬ ((xf_195 M v1 (0 : Int32) (255 : Int32))) → True))
theorem xl_210 {M : ro_Mm} {v1 : Int32} (hL : ro_lay M) (hp : xp_210 M v1) : ro_lay (xm_210 M v1) := by
  unfold xp_210 at hp
  unfold xm_210
  by_cases hz : (xf_195 M v1 (0 : Int32) (255 : Int32))
  · have hp := hp.1 hz
    rw [if_pos hz]
    by_cases hz : (M.2.1 163 14) = (120 : Int32)
    · have hp := hp.1 hz
      rw [if_pos hz]
      exact hL
    · have hp := hp.2 hz
      rw [if_neg hz]
      obtain ⟨q2, hp⟩ := hp
      exact hL
  · have hp := hp.2 hz
    rw [if_neg hz]
    exact hL
theorem xwI_210 {M : ro_Mm} {v1 : Int32} {c j : Nat} (n0 : c ≠ 173) (n1 : c ≠ 163) : (xm_210 M v1).2.1 c j = M.2.1 c j := by
  unfold xm_210
  by_cases hz : (xf_195 M v1 (0 : Int32) (255 : Int32))
  · rw [if_pos hz]
    by_cases hz : (M.2.1 163 14) = (120 : Int32)
    · rw [if_pos hz]
      first | done | exact rfl
    · rw [if_neg hz]
      first | done | exact (((ro_sI_ne n1)).trans (ro_sI_ne n0))
  · rw [if_neg hz]
    first | done | exact rfl
theorem xwJ_210 {M : ro_Mm} {v1 : Int32} {c j : Nat} : (xm_210 M v1).2.2.1 c j = M.2.2.1 c j := by
  unfold xm_210
  by_cases hz : (xf_195 M v1 (0 : Int32) (255 : Int32))
  · rw [if_pos hz]
    by_cases hz : (M.2.1 163 14) = (120 : Int32)
    · rw [if_pos hz]
      first | done | exact rfl
    · rw [if_neg hz]
      first | done | exact rfl
  · rw [if_neg hz]
    first | done | exact rfl
/-- RefusedOnceModel.look()I -/
def xf_220 (M : ro_Mm) : Int32 := (if (M.2.1 163 14) ≤ (M.2.1 163 15) then (-1 : Int32) else (M.2.1 173 ((M.2.1 163 15).toNatClampNeg)))
def xp_220 (M : ro_Mm) : Prop := (((M.2.1 163 14) ≤ (M.2.1 163 15) → True) ∧ (¬ ((M.2.1 163 14) ≤ (M.2.1 163 15)) → (vp_in (M.2.1 163 15) 120 ∧ True)))
/-- RefusedOnceModel.nameOf(I)I -/
def xf_221 (M : ro_Mm) (v0 : Int32) : Int32 := (if v0 = (98 : Int32) then (1 : Int32) else (if v0 = (99 : Int32) then (3 : Int32) else (if v0 = (104 : Int32) then (4 : Int32) else (if v0 = (110 : Int32) then (5 : Int32) else (if v0 = (112 : Int32) then (0 : Int32) else (if v0 = (119 : Int32) then (2 : Int32) else (-1 : Int32)))))))
/-- RefusedOnceModel.addStep(II)V -/
def xm_222 (M : ro_Mm) (v1 : Int32) (v2 : Int32) : ro_Mm := (ro_sI (ro_sI (ro_sI M 174 (((130 : Int32) + (M.2.1 163 18)).toNatClampNeg) (vp_nar .byte (v1.toInt8.toInt32))) 175 (((130 : Int32) + (M.2.1 163 18)).toNatClampNeg) v2) 163 18 ((M.2.1 163 18) + (1 : Int32)))
def xp_222 (M : ro_Mm) (v1 : Int32) (v2 : Int32) : Prop := (vp_in ((130 : Int32) + (M.2.1 163 18)) 260 ∧ (vp_in ((130 : Int32) + (M.2.1 163 18)) 260 ∧ True))
theorem xl_222 {M : ro_Mm} {v1 : Int32} {v2 : Int32} (hL : ro_lay M) (hp : xp_222 M v1 v2) : ro_lay (xm_222 M v1 v2) := by
  unfold xp_222 at hp
  unfold xm_222
  obtain ⟨q0, hp⟩ := hp
  obtain ⟨q1, hp⟩ := hp
  exact hL
theorem xwI_222 {M : ro_Mm} {v1 : Int32} {v2 : Int32} {c j : Nat} (n0 : c ≠ 174) (n1 : c ≠ 175) (n2 : c ≠ 163) : (xm_222 M v1 v2).2.1 c j = M.2.1 c j := by
  unfold xm_222
  first | done | exact ((((ro_sI_ne n2)).trans (ro_sI_ne n1)).trans (ro_sI_ne n0))
theorem xwJ_222 {M : ro_Mm} {v1 : Int32} {v2 : Int32} {c j : Nat} : (xm_222 M v1 v2).2.2.1 c j = M.2.2.1 c j := by
  unfold xm_222
  first | done | exact rfl
/-- RefusedOnceModel.wrong()V -/
def xm_224 (M : ro_Mm) : ro_Mm := (if (0 : Int32) ≤ (M.2.1 163 16) then M else (ro_sI M 163 16 (M.2.1 163 15)))
theorem xl_224 {M : ro_Mm} (hL : ro_lay M) : ro_lay (xm_224 M) := by
  unfold xm_224
  by_cases hz : (0 : Int32) ≤ (M.2.1 163 16)
  · skip
    rw [if_pos hz]
    exact hL
  · skip
    rw [if_neg hz]
    exact hL
theorem xwI_224 {M : ro_Mm} {c j : Nat} (n0 : c ≠ 163) : (xm_224 M).2.1 c j = M.2.1 c j := by
  unfold xm_224
  by_cases hz : (0 : Int32) ≤ (M.2.1 163 16)
  · rw [if_pos hz]
    first | done | exact rfl
  · rw [if_neg hz]
    first | done | exact (ro_sI_ne n0)
theorem xwJ_224 {M : ro_Mm} {c j : Nat} : (xm_224 M).2.2.1 c j = M.2.2.1 c j := by
  unfold xm_224
  by_cases hz : (0 : Int32) ≤ (M.2.1 163 16)
  · rw [if_pos hz]
    first | done | exact rfl
  · rw [if_neg hz]
    first | done | exact rfl
/-- RefusedOnceModel.areTwo(I)Z -/
def xf_227 (M : ro_Mm) (v1 : Int32) : Bool := (if v1 < (0 : Int32) then false else (if (xf_204 M (v1 / (10 : Int32))) then (if (xf_204 M (ro_irem v1 (10 : Int32))) then (if (v1 / (10 : Int32)) = (ro_irem v1 (10 : Int32)) then false else true) else false) else false))
/-- RefusedOnceModel.twoOf(III)I -/
def xf_232 (M : ro_Mm) (v0 : Int32) (v1 : Int32) (v2 : Int32) : Int32 := (if v0 = (37 : Int32) then (if v2 = (0 : Int32) then (0 : Int32) else (if v2 = (-1 : Int32) then (0 : Int32) else (ro_irem v1 v2))) else (if v0 = (38 : Int32) then (if v1 = (0 : Int32) then (0 : Int32) else (if v2 = (0 : Int32) then (0 : Int32) else (1 : Int32))) else (if v0 = (42 : Int32) then (v1 * v2) else (if v0 = (43 : Int32) then (v1 + v2) else (if v0 = (45 : Int32) then (v1 - v2) else (if v0 = (47 : Int32) then (if v2 = (0 : Int32) then (0 : Int32) else (if v2 = (-1 : Int32) then (-v1) else (v1 / v2))) else (if v0 = (60 : Int32) then (if v2 ≤ v1 then (0 : Int32) else (1 : Int32)) else (if v0 = (61 : Int32) then (if v1 = v2 then (1 : Int32) else (0 : Int32)) else (if v0 = (62 : Int32) then (if v1 ≤ v2 then (0 : Int32) else (1 : Int32)) else (if v1 = (0 : Int32) then (if v2 = (0 : Int32) then (0 : Int32) else (1 : Int32)) else (1 : Int32)))))))))))
/-- RefusedOnceModel.areMany(I)Z -/
def xf_234 (M : ro_Mm) (v0 : Int32) : Bool := (xf_195 M v0 (0 : Int32) (20 : Int32))
/-- RefusedOnceModel.rowFault(I)I -/
def xf_235 (M : ro_Mm) (v1 : Int32) : Int32 := (if (M.2.1 190 (v1.toNatClampNeg)) = (-1 : Int32) then (-11 : Int32) else (if (M.2.1 190 (v1.toNatClampNeg)) = (-2 : Int32) then (0 : Int32) else (-12 : Int32)))
def xp_235 (M : ro_Mm) (v1 : Int32) : Prop := (vp_in v1 6 ∧ (((M.2.1 190 (v1.toNatClampNeg)) = (-1 : Int32) → True) ∧ (¬ ((M.2.1 190 (v1.toNatClampNeg)) = (-1 : Int32)) → (vp_in v1 6 ∧ True))))
/-- RefusedOnceModel.at(II)I -/
def xf_238 (M : ro_Mm) (v1 : Int32) (v2 : Int32) : Int32 := ((M.2.2.1 192 ((((60 : Int32) * v1) + v2).toNatClampNeg)).toInt32)
def xp_238 (M : ro_Mm) (v1 : Int32) (v2 : Int32) : Prop := (vp_in (((60 : Int32) * v1) + v2) 360 ∧ True)
/-- RefusedOnceModel.isOffer(I)Z -/
def xf_239 (M : ro_Mm) (v1 : Int32) : Bool := (if v1 < (0 : Int32) then false else (if (xf_204 M (v1 / (20 : Int32))) then (if (xf_204 M ((ro_irem v1 (20 : Int32)) / (2 : Int32))) then (if (v1 / (20 : Int32)) = ((ro_irem v1 (20 : Int32)) / (2 : Int32)) then false else true) else false) else false))
/-- RefusedOnceModel.mayCut(II)Z -/
def xf_240 (M : ro_Mm) (v1 : Int32) (v2 : Int32) : Bool := (if (M.2.1 182 (v1.toNatClampNeg)) ≤ (0 : Int32) then false else (if (20 : Int32) ≤ (M.2.1 182 (v2.toNatClampNeg)) then false else true))
def xp_240 (M : ro_Mm) (v1 : Int32) (v2 : Int32) : Prop := (vp_in v1 6 ∧ (((M.2.1 182 (v1.toNatClampNeg)) ≤ (0 : Int32) → True) ∧ (¬ ((M.2.1 182 (v1.toNatClampNeg)) ≤ (0 : Int32)) → (vp_in v2 6 ∧ True))))
/-- RefusedOnceModel.mayWhole(II)Z -/
def xf_241 (M : ro_Mm) (v1 : Int32) (v2 : Int32) : Bool := (if (M.2.1 181 (v1.toNatClampNeg)) ≤ (0 : Int32) then false else (if (20 : Int32) ≤ (M.2.1 182 (v1.toNatClampNeg)) then false else (if (20 : Int32) ≤ (M.2.1 181 (v2.toNatClampNeg)) then false else true)))
def xp_241 (M : ro_Mm) (v1 : Int32) (v2 : Int32) : Prop := (vp_in v1 6 ∧ (((M.2.1 181 (v1.toNatClampNeg)) ≤ (0 : Int32) → True) ∧ (¬ ((M.2.1 181 (v1.toNatClampNeg)) ≤ (0 : Int32)) → (vp_in v1 6 ∧ (((20 : Int32) ≤ (M.2.1 182 (v1.toNatClampNeg)) → True) ∧ (¬ ((20 : Int32) ≤ (M.2.1 182 (v1.toNatClampNeg))) → (vp_in v2 6 ∧ True)))))))
/-- RefusedOnceModel.goCut(II)V -/
def xm_242 (M : ro_Mm) (v1 : Int32) (v2 : Int32) : ro_Mm := (ro_sI (ro_sI M 182 (v1.toNatClampNeg) ((M.2.1 182 (v1.toNatClampNeg)) - (1 : Int32))) 182 (v2.toNatClampNeg) (((ro_sI M 182 (v1.toNatClampNeg) ((M.2.1 182 (v1.toNatClampNeg)) - (1 : Int32))).2.1 182 (v2.toNatClampNeg)) + (1 : Int32)))
def xp_242 (M : ro_Mm) (v1 : Int32) (v2 : Int32) : Prop := (vp_in v1 6 ∧ (vp_in v1 6 ∧ (vp_in v2 6 ∧ (vp_in v2 6 ∧ True))))
theorem xl_242 {M : ro_Mm} {v1 : Int32} {v2 : Int32} (hL : ro_lay M) (hp : xp_242 M v1 v2) : ro_lay (xm_242 M v1 v2) := by
  unfold xp_242 at hp
  unfold xm_242
  obtain ⟨q0, hp⟩ := hp
  obtain ⟨q1, hp⟩ := hp
  obtain ⟨q2, hp⟩ := hp
  obtain ⟨q3, hp⟩ := hp
  exact hL
theorem xwI_242 {M : ro_Mm} {v1 : Int32} {v2 : Int32} {c j : Nat} (n0 : c ≠ 182) : (xm_242 M v1 v2).2.1 c j = M.2.1 c j := by
  unfold xm_242
  first | done | exact (((ro_sI_ne n0)).trans (ro_sI_ne n0))
theorem xwJ_242 {M : ro_Mm} {v1 : Int32} {v2 : Int32} {c j : Nat} : (xm_242 M v1 v2).2.2.1 c j = M.2.2.1 c j := by
  unfold xm_242
  first | done | exact rfl
/-- RefusedOnceModel.notches(I)V -/
def xm_244 (M : ro_Mm) (v1 : Int32) : ro_Mm := (ro_sI (ro_sI M 181 (v1.toNatClampNeg) ((M.2.1 181 (v1.toNatClampNeg)) - (1 : Int32))) 182 (v1.toNatClampNeg) ((M.2.1 182 (v1.toNatClampNeg)) + (1 : Int32)))
def xp_244 (M : ro_Mm) (v1 : Int32) : Prop := (vp_in v1 6 ∧ (vp_in v1 6 ∧ (vp_in v1 6 ∧ (vp_in v1 6 ∧ True))))
theorem xl_244 {M : ro_Mm} {v1 : Int32} (hL : ro_lay M) (hp : xp_244 M v1) : ro_lay (xm_244 M v1) := by
  unfold xp_244 at hp
  unfold xm_244
  obtain ⟨q0, hp⟩ := hp
  obtain ⟨q1, hp⟩ := hp
  obtain ⟨q2, hp⟩ := hp
  obtain ⟨q3, hp⟩ := hp
  exact hL
theorem xwI_244 {M : ro_Mm} {v1 : Int32} {c j : Nat} (n0 : c ≠ 181) (n1 : c ≠ 182) : (xm_244 M v1).2.1 c j = M.2.1 c j := by
  unfold xm_244
  first | done | exact (((ro_sI_ne n1)).trans (ro_sI_ne n0))
theorem xwJ_244 {M : ro_Mm} {v1 : Int32} {c j : Nat} : (xm_244 M v1).2.2.1 c j = M.2.2.1 c j := by
  unfold xm_244
  first | done | exact rfl
/-- RefusedOnceModel.goWhole(II)V -/
def xm_245 (M : ro_Mm) (v1 : Int32) (v2 : Int32) : ro_Mm := (ro_sI (ro_sI M 181 (v1.toNatClampNeg) ((M.2.1 181 (v1.toNatClampNeg)) - (1 : Int32))) 181 (v2.toNatClampNeg) (((ro_sI M 181 (v1.toNatClampNeg) ((M.2.1 181 (v1.toNatClampNeg)) - (1 : Int32))).2.1 181 (v2.toNatClampNeg)) + (1 : Int32)))
def xp_245 (M : ro_Mm) (v1 : Int32) (v2 : Int32) : Prop := (vp_in v1 6 ∧ (vp_in v1 6 ∧ (vp_in v2 6 ∧ (vp_in v2 6 ∧ True))))
theorem xl_245 {M : ro_Mm} {v1 : Int32} {v2 : Int32} (hL : ro_lay M) (hp : xp_245 M v1 v2) : ro_lay (xm_245 M v1 v2) := by
  unfold xp_245 at hp
  unfold xm_245
  obtain ⟨q0, hp⟩ := hp
  obtain ⟨q1, hp⟩ := hp
  obtain ⟨q2, hp⟩ := hp
  obtain ⟨q3, hp⟩ := hp
  exact hL
theorem xwI_245 {M : ro_Mm} {v1 : Int32} {v2 : Int32} {c j : Nat} (n0 : c ≠ 181) : (xm_245 M v1 v2).2.1 c j = M.2.1 c j := by
  unfold xm_245
  first | done | exact (((ro_sI_ne n0)).trans (ro_sI_ne n0))
theorem xwJ_245 {M : ro_Mm} {v1 : Int32} {v2 : Int32} {c j : Nat} : (xm_245 M v1 v2).2.2.1 c j = M.2.2.1 c j := by
  unfold xm_245
  first | done | exact rfl
/-- RefusedOnceModel.looked(II)I -/
def xf_261 (M : ro_Mm) (v1 : Int32) (v2 : Int32) : Int32 := (if (M.2.1 165 (v1.toNatClampNeg)) ≤ v2 then (M.2.1 165 (v1.toNatClampNeg)) else v2)
def xp_261 (M : ro_Mm) (v1 : Int32) (v2 : Int32) : Prop := (vp_in v1 6 ∧ (((M.2.1 165 (v1.toNatClampNeg)) ≤ v2 → (vp_in v1 6 ∧ True)) ∧ (¬ ((M.2.1 165 (v1.toNatClampNeg)) ≤ v2) → True)))
/-- RefusedOnceModel.mint(I)I -/
def xf_276 (M : ro_Mm) (v1 : Int32) : Int32 := (if (xf_204 M v1) then (if (M.2.1 165 (v1.toNatClampNeg)) = (0 : Int32) then (-5 : Int32) else (if (M.2.1 164 (v1.toNatClampNeg)) = (20 : Int32) then (-5 : Int32) else ((M.2.1 164 (v1.toNatClampNeg)) + (1 : Int32)))) else (-1 : Int32))
def xm_276 (M : ro_Mm) (v1 : Int32) : ro_Mm := (if (xf_204 M v1) then (if (M.2.1 165 (v1.toNatClampNeg)) = (0 : Int32) then M else (if (M.2.1 164 (v1.toNatClampNeg)) = (20 : Int32) then M else (ro_sI (ro_sI (ro_sI M 165 (v1.toNatClampNeg) ((M.2.1 165 (v1.toNatClampNeg)) - (1 : Int32))) 164 (v1.toNatClampNeg) ((M.2.1 164 (v1.toNatClampNeg)) + (1 : Int32))) 184 2 ((M.2.1 184 2) + (1 : Int32))))) else M)
def xp_276 (M : ro_Mm) (v1 : Int32) : Prop := (((xf_204 M v1) → (vp_in v1 6 ∧ (((M.2.1 165 (v1.toNatClampNeg)) = (0 : Int32) → True) ∧ (¬ ((M.2.1 165 (v1.toNatClampNeg)) = (0 : Int32)) → (vp_in v1 6 ∧ (((M.2.1 164 (v1.toNatClampNeg)) = (20 : Int32) → True) ∧ (¬ ((M.2.1 164 (v1.toNatClampNeg)) = (20 : Int32)) → (vp_in v1 6 ∧ (vp_in v1 6 ∧ (vp_in v1 6 ∧ (vp_in v1 6 ∧ (vp_in v1 6 ∧ True)))))))))))) ∧ (¬ ((xf_204 M v1)) → True))
theorem xl_276 {M : ro_Mm} {v1 : Int32} (hL : ro_lay M) (hp : xp_276 M v1) : ro_lay (xm_276 M v1) := by
  unfold xp_276 at hp
  unfold xm_276
  by_cases hz : (xf_204 M v1)
  · have hp := hp.1 hz
    rw [if_pos hz]
    obtain ⟨q1, hp⟩ := hp
    by_cases hz : (M.2.1 165 (v1.toNatClampNeg)) = (0 : Int32)
    · have hp := hp.1 hz
      rw [if_pos hz]
      exact hL
    · have hp := hp.2 hz
      rw [if_neg hz]
      obtain ⟨q3, hp⟩ := hp
      by_cases hz : (M.2.1 164 (v1.toNatClampNeg)) = (20 : Int32)
      · have hp := hp.1 hz
        rw [if_pos hz]
        exact hL
      · have hp := hp.2 hz
        rw [if_neg hz]
        obtain ⟨q5, hp⟩ := hp
        obtain ⟨q6, hp⟩ := hp
        obtain ⟨q7, hp⟩ := hp
        obtain ⟨q8, hp⟩ := hp
        obtain ⟨q9, hp⟩ := hp
        exact hL
  · have hp := hp.2 hz
    rw [if_neg hz]
    exact hL
theorem xwI_276 {M : ro_Mm} {v1 : Int32} {c j : Nat} (n0 : c ≠ 165) (n1 : c ≠ 164) (n2 : c ≠ 184) : (xm_276 M v1).2.1 c j = M.2.1 c j := by
  unfold xm_276
  by_cases hz : (xf_204 M v1)
  · rw [if_pos hz]
    by_cases hz : (M.2.1 165 (v1.toNatClampNeg)) = (0 : Int32)
    · rw [if_pos hz]
      first | done | exact rfl
    · rw [if_neg hz]
      by_cases hz : (M.2.1 164 (v1.toNatClampNeg)) = (20 : Int32)
      · rw [if_pos hz]
        first | done | exact rfl
      · rw [if_neg hz]
        first | done | exact ((((ro_sI_ne n2)).trans (ro_sI_ne n1)).trans (ro_sI_ne n0))
  · rw [if_neg hz]
    first | done | exact rfl
theorem xwJ_276 {M : ro_Mm} {v1 : Int32} {c j : Nat} : (xm_276 M v1).2.2.1 c j = M.2.2.1 c j := by
  unfold xm_276
  by_cases hz : (xf_204 M v1)
  · rw [if_pos hz]
    by_cases hz : (M.2.1 165 (v1.toNatClampNeg)) = (0 : Int32)
    · rw [if_pos hz]
      first | done | exact rfl
    · rw [if_neg hz]
      by_cases hz : (M.2.1 164 (v1.toNatClampNeg)) = (20 : Int32)
      · rw [if_pos hz]
        first | done | exact rfl
      · rw [if_neg hz]
        first | done | exact rfl
  · rw [if_neg hz]
    first | done | exact rfl

