/-! methods without loops: what they answer, what they leave, the rows that show it (by program, wip/whole/walk.py) -/
/-- RefusedOnce$Payings.found()I -/
def xf_91 (M : ro_Mm) : Int32 := (M.2.1 42 6)
theorem xs_91 {X : ro_Sx} {M : ro_Mm} (hL : ro_lay M) : ro_cwp X 1 91 [.ref 42] M (fun v M2 => v = some (.int (xf_91 M)) ∧ M2 = M) := by
  refine rs_begin (lv0 := [(0, .ref 42)]) (by decide) rfl (by rw [rm_91.1]; exact Nat.le_of_ble_eq_true rfl) rfl ?_
  refine rs_aload_n ri_91_0 rfl rfl ?_
  refine rs_gf (v := .int (M.2.1 42 6)) ri_91_1 rfl (by decide) (ro_kf (kd_42 hL)) rfl rfl ?_
  refine rs_iret ri_91_4 rm_91.2.1 (by decide) ?_
  exact ⟨by rfl, by rfl⟩
/-- RefusedOnce$Payings.kindAt(I)I -/
def xf_92 (M : ro_Mm) (v1 : Int32) : Int32 := (if v1 < (0 : Int32) then (0 : Int32) else (if (10 : Int32) ≤ v1 then (0 : Int32) else (((M.2.1 42 7) >>> (v1 &&& 31)) &&& (1 : Int32))))
theorem xs_92 {X : ro_Sx} {M : ro_Mm} {v1 : Int32} (hL : ro_lay M) : ro_cwp X 1 92 [.ref 42, .int v1] M (fun v M2 => v = some (.int (xf_92 M v1)) ∧ M2 = M) := by
  refine rs_begin (lv0 := [(0, .ref 42), (1, .int v1)]) (by decide) rfl (by rw [rm_92.1]; exact Nat.le_of_ble_eq_true rfl) rfl ?_
  refine rs_iload_n ri_92_0 rfl rfl ?_
  refine rs_if_lt (t := 21) ri_92_1 rfl rfl (fun h1 => ?_) (fun h1 => ?_)
  · skip
    refine rs_iconst (v := (0 : Int32)) ri_92_21 rfl (by decide) ?_
    refine rs_iret ri_92_22 rm_92.2.1 (by decide) ?_
    exact ⟨by unfold xf_92; first | (simp only [if_pos h1]; done) | rfl, by rfl⟩
  · skip
    refine rs_iload_n ri_92_4 rfl rfl ?_
    refine rs_bipush (v := (10 : Int32)) ri_92_5 rfl (by decide) ?_
    refine rs_icmp_ge (t := 21) ri_92_7 rfl rfl (fun h2 => ?_) (fun h2 => ?_)
    · skip
      refine rs_iconst (v := (0 : Int32)) ri_92_21 rfl (by decide) ?_
      refine rs_iret ri_92_22 rm_92.2.1 (by decide) ?_
      exact ⟨by unfold xf_92; first | (simp only [if_neg h1, if_pos h2]; done) | rfl, by rfl⟩
    · skip
      refine rs_aload_n ri_92_10 rfl rfl ?_
      refine rs_gf (v := .int (M.2.1 42 7)) ri_92_11 rfl (by decide) (ro_kf (kd_42 hL)) rfl rfl ?_
      refine rs_iload_n ri_92_14 rfl rfl ?_
      refine rs_ishr (r := ((M.2.1 42 7) >>> (v1 &&& 31))) ri_92_15 rfl rfl ?_
      refine rs_iconst (v := (1 : Int32)) ri_92_16 rfl (by decide) ?_
      refine rs_iand (r := (((M.2.1 42 7) >>> (v1 &&& 31)) &&& (1 : Int32))) ri_92_17 rfl rfl ?_
      refine rs_goto (t := 22) ri_92_18 rfl ?_
      refine rs_iret ri_92_22 rm_92.2.1 (by decide) ?_
      exact ⟨by unfold xf_92; first | (simp only [if_neg h1, if_neg h2]; done) | rfl, by rfl⟩
/-- RefusedOnce.isPart(I)Z -/
def xf_95 (M : ro_Mm) (v0 : Int32) : Bool := (if v0 = (0 : Int32) then true else (if v0 = (1 : Int32) then true else false))
theorem xs_95 {X : ro_Sx} {M : ro_Mm} {v0 : Int32} (hL : ro_lay M) : ro_cwp X 1 95 [.int v0] M (fun v M2 => v = some (.int (ro_b (xf_95 M v0))) ∧ M2 = M) := by
  refine rs_begin (lv0 := [(0, .int v0)]) (by decide) rfl (by rw [rm_95.1]; exact Nat.le_of_ble_eq_true rfl) rfl ?_
  refine rs_iload_n ri_95_0 rfl rfl ?_
  refine rs_if_eq (t := 9) ri_95_1 rfl rfl (fun h1 => ?_) (fun h1 => ?_)
  · skip
    refine rs_iconst (v := (1 : Int32)) ri_95_9 rfl (by decide) ?_
    refine rs_goto (t := 14) ri_95_10 rfl ?_
    refine rs_zret (p := true) ri_95_14 rm_95.2.1 (by decide) rfl ?_
    exact ⟨by unfold xf_95; first | (simp only [if_pos h1]; done) | rfl, by rfl⟩
  · skip
    refine rs_iload_n ri_95_4 rfl rfl ?_
    refine rs_iconst (v := (1 : Int32)) ri_95_5 rfl (by decide) ?_
    refine rs_icmp_ne (t := 13) ri_95_6 rfl rfl (fun h2 => ?_) (fun h2 => ?_)
    · skip
      refine rs_iconst (v := (0 : Int32)) ri_95_13 rfl (by decide) ?_
      refine rs_zret (p := false) ri_95_14 rm_95.2.1 (by decide) rfl ?_
      exact ⟨by unfold xf_95; first | (simp only [if_neg h1, if_neg h2]; done) | rfl, by rfl⟩
    · skip
      refine rs_iconst (v := (1 : Int32)) ri_95_9 rfl (by decide) ?_
      refine rs_goto (t := 14) ri_95_10 rfl ?_
      refine rs_zret (p := true) ri_95_14 rm_95.2.1 (by decide) rfl ?_
      exact ⟨by unfold xf_95; first | (simp only [if_neg h1, if_pos h2]; done) | rfl, by rfl⟩
/-- RefusedOnce$Chances.part(I)J -/
def xf_102 (M : ro_Mm) (v1 : Int32) : Int64 := (if v1 = (0 : Int32) then (M.2.2.1 48 5) else (M.2.2.1 48 6))
theorem xs_102 {X : ro_Sx} {M : ro_Mm} {v1 : Int32} (hL : ro_lay M) : ro_cwp X 1 102 [.ref 48, .int v1] M (fun v M2 => v = some (.long (xf_102 M v1)) ∧ M2 = M) := by
  refine rs_begin (lv0 := [(0, .ref 48), (1, .int v1)]) (by decide) rfl (by rw [rm_102.1]; exact Nat.le_of_ble_eq_true rfl) rfl ?_
  refine rs_iload_n ri_102_0 rfl rfl ?_
  refine rs_if_ne (t := 11) ri_102_1 rfl rfl (fun h1 => ?_) (fun h1 => ?_)
  · skip
    refine rs_aload_n ri_102_11 rfl rfl ?_
    refine rs_gf (v := .long (M.2.2.1 48 6)) ri_102_12 rfl (by decide) (ro_kf (kd_48 hL)) rfl rfl ?_
    refine rs_lret ri_102_15 rm_102.2.1 (by decide) ?_
    exact ⟨by unfold xf_102; first | (simp only [if_neg h1]; done) | rfl, by rfl⟩
  · skip
    refine rs_aload_n ri_102_4 rfl rfl ?_
    refine rs_gf (v := .long (M.2.2.1 48 5)) ri_102_5 rfl (by decide) (ro_kf (kd_48 hL)) rfl rfl ?_
    refine rs_goto (t := 15) ri_102_8 rfl ?_
    refine rs_lret ri_102_15 rm_102.2.1 (by decide) ?_
    exact ⟨by unfold xf_102; first | (simp only [if_pos h1]; done) | rfl, by rfl⟩
/-- RefusedOnce$Evening.length()I -/
def xf_121 (M : ro_Mm) : Int32 := (M.2.1 35 6)
theorem xs_121 {X : ro_Sx} {M : ro_Mm} (hL : ro_lay M) : ro_cwp X 1 121 [.ref 35] M (fun v M2 => v = some (.int (xf_121 M)) ∧ M2 = M) := by
  refine rs_begin (lv0 := [(0, .ref 35)]) (by decide) rfl (by rw [rm_121.1]; exact Nat.le_of_ble_eq_true rfl) rfl ?_
  refine rs_aload_n ri_121_0 rfl rfl ?_
  refine rs_gf (v := .int (M.2.1 35 6)) ri_121_1 rfl (by decide) (ro_kf (kd_35 hL)) rfl rfl ?_
  refine rs_iret ri_121_4 rm_121.2.1 (by decide) ?_
  exact ⟨by rfl, by rfl⟩
/-- RefusedOnce$Ways.headOf(J)I -/
def xf_132 (M : ro_Mm) (v0 : Int64) : Int32 := (((ro_lushr ((v0 ^^^ (ro_lushr v0 (32 : Int32))) * (6364136223846793005 : Int64)) (40 : Int32)).toInt32) &&& (1023 : Int32))
theorem xs_132 {X : ro_Sx} {M : ro_Mm} {v0 : Int64} (hL : ro_lay M) : ro_cwp X 1 132 [.long v0] M (fun v M2 => v = some (.int (xf_132 M v0)) ∧ M2 = M) := by
  refine rs_begin (lv0 := [(0, .long v0)]) (by decide) rfl (by rw [rm_132.1]; exact Nat.le_of_ble_eq_true rfl) rfl ?_
  refine rs_lload_n ri_132_0 rfl rfl ?_
  refine rs_lload_n ri_132_1 rfl rfl ?_
  refine rs_bipush (v := (32 : Int32)) ri_132_2 rfl (by decide) ?_
  refine rs_lushr (r := (ro_lushr v0 (32 : Int32))) ri_132_4 rfl rfl ?_
  refine rs_lxor (r := (v0 ^^^ (ro_lushr v0 (32 : Int32)))) ri_132_5 rfl rfl ?_
  refine rs_ldc2 (v := (6364136223846793005 : Int64)) ri_132_6 rfl rfl rfl ?_
  refine rs_lmul (r := ((v0 ^^^ (ro_lushr v0 (32 : Int32))) * (6364136223846793005 : Int64))) ri_132_9 rfl rfl ?_
  refine rs_lstore_n (lv2 := [(2, .long ((v0 ^^^ (ro_lushr v0 (32 : Int32))) * (6364136223846793005 : Int64))), (0, .long v0)]) ri_132_10 rfl rm_132.1 (by decide) rfl ?_
  refine rs_lload_n ri_132_11 rfl rfl ?_
  refine rs_bipush (v := (40 : Int32)) ri_132_12 rfl (by decide) ?_
  refine rs_lushr (r := (ro_lushr ((v0 ^^^ (ro_lushr v0 (32 : Int32))) * (6364136223846793005 : Int64)) (40 : Int32))) ri_132_14 rfl rfl ?_
  refine rs_l2i (r := ((ro_lushr ((v0 ^^^ (ro_lushr v0 (32 : Int32))) * (6364136223846793005 : Int64)) (40 : Int32)).toInt32)) ri_132_15 rfl rfl ?_
  refine rs_sipush (v := (1023 : Int32)) ri_132_16 rfl (by decide) ?_
  refine rs_iand (r := (((ro_lushr ((v0 ^^^ (ro_lushr v0 (32 : Int32))) * (6364136223846793005 : Int64)) (40 : Int32)).toInt32) &&& (1023 : Int32))) ri_132_19 rfl rfl ?_
  refine rs_iret ri_132_20 rm_132.2.1 (by decide) ?_
  exact ⟨by rfl, by rfl⟩
/-- RefusedOnce$Evening.drawnWhole()I -/
def xf_143 (M : ro_Mm) : Int32 := (M.2.1 35 10)
theorem xs_143 {X : ro_Sx} {M : ro_Mm} (hL : ro_lay M) : ro_cwp X 1 143 [.ref 35] M (fun v M2 => v = some (.int (xf_143 M)) ∧ M2 = M) := by
  refine rs_begin (lv0 := [(0, .ref 35)]) (by decide) rfl (by rw [rm_143.1]; exact Nat.le_of_ble_eq_true rfl) rfl ?_
  refine rs_aload_n ri_143_0 rfl rfl ?_
  refine rs_gf (v := .int (M.2.1 35 10)) ri_143_1 rfl (by decide) (ro_kf (kd_35 hL)) rfl rfl ?_
  refine rs_iret ri_143_4 rm_143.2.1 (by decide) ?_
  exact ⟨by rfl, by rfl⟩
/-- RefusedOnce$Land.leads(I)V -/
def xm_145 (M : ro_Mm) (v1 : Int32) : ro_Mm := (if v1 < (0 : Int32) then M else (if (4 : Int32) ≤ v1 then M else (ro_sI M 11 (v1.toNatClampNeg) ((M.2.1 11 (v1.toNatClampNeg)) + (1 : Int32)))))
theorem xs_145 {X : ro_Sx} {M : ro_Mm} {v1 : Int32} (hL : ro_lay M) : ro_cwp X 1 145 [.ref 5, .int v1] M (fun v M2 => v = none ∧ M2 = xm_145 M v1) := by
  refine rs_begin (lv0 := [(0, .ref 5), (1, .int v1)]) (by decide) rfl (by rw [rm_145.1]; exact Nat.le_of_ble_eq_true rfl) rfl ?_
  refine rs_iload_n ri_145_0 rfl rfl ?_
  refine rs_if_lt (t := 23) ri_145_1 rfl rfl (fun h1 => ?_) (fun h1 => ?_)
  · skip
    refine rs_ret ri_145_23 rm_145.2.1 (by decide) ?_
    exact ⟨by rfl, by unfold xm_145; first | (simp only [if_pos h1]; done) | rfl⟩
  · skip
    refine rs_iload_n ri_145_4 rfl rfl ?_
    refine rs_aload_n ri_145_5 rfl rfl ?_
    refine rs_gf (v := .ref 11) ri_145_6 rfl (by decide) (ro_kf (kd_5 hL)) rfl (rf_5_3 hL) ?_
    refine rs_len (v := (4 : Int32)) ri_145_9 rfl (by decide) (kd_11 hL) (by decide) rfl ?_
    refine rs_icmp_ge (t := 23) ri_145_10 rfl rfl (fun h2 => ?_) (fun h2 => ?_)
    · skip
      refine rs_ret ri_145_23 rm_145.2.1 (by decide) ?_
      exact ⟨by rfl, by unfold xm_145; first | (simp only [if_neg h1, if_pos h2]; done) | rfl⟩
    · skip
      refine rs_aload_n ri_145_13 rfl rfl ?_
      refine rs_gf (v := .ref 11) ri_145_14 rfl (by decide) (ro_kf (kd_5 hL)) rfl (rf_5_3 hL) ?_
      refine rs_iload_n ri_145_17 rfl rfl ?_
      refine rs_dup2 ri_145_18 rfl rfl rfl ?_
      refine rs_iald (v := (M.2.1 11 (v1.toNatClampNeg))) ri_145_19 rfl (by decide) (kd_11 hL) (vp_in_iff.mpr ⟨(ro_lo1 h1), (ro_hi2 h2 (by decide))⟩) rfl ?_
      refine rs_iconst (v := (1 : Int32)) ri_145_20 rfl (by decide) ?_
      refine rs_iadd (r := ((M.2.1 11 (v1.toNatClampNeg)) + (1 : Int32))) ri_145_21 rfl rfl ?_
      refine rs_iast (j := v1.toNatClampNeg) ri_145_22 rfl (by decide) (kd_11 hL) (vp_in_iff.mpr ⟨(ro_lo1 h1), (ro_hi2 h2 (by decide))⟩) rfl ?_
      refine rs_ret ri_145_23 rm_145.2.1 (by decide) ?_
      exact ⟨by rfl, by unfold xm_145; first | (simp only [if_neg h1, if_neg h2]; done) | rfl⟩
theorem xl_145 {M : ro_Mm} {v1 : Int32} (hL : ro_lay M) : ro_lay (xm_145 M v1) := by
  unfold xm_145
  by_cases hz : v1 < (0 : Int32)
  · skip
    rw [if_pos hz]
    exact hL
  · skip
    rw [if_neg hz]
    by_cases hz : (4 : Int32) ≤ v1
    · skip
      rw [if_pos hz]
      exact hL
    · skip
      rw [if_neg hz]
      exact hL
theorem xwI_145 {M : ro_Mm} {v1 : Int32} {c j : Nat} (n0 : c ≠ 11) : (xm_145 M v1).2.1 c j = M.2.1 c j := by
  unfold xm_145
  by_cases hz : v1 < (0 : Int32)
  · rw [if_pos hz]
    first | done | exact rfl
  · rw [if_neg hz]
    by_cases hz : (4 : Int32) ≤ v1
    · rw [if_pos hz]
      first | done | exact rfl
    · rw [if_neg hz]
      first | done | exact (ro_sI_ne n0)
theorem xwJ_145 {M : ro_Mm} {v1 : Int32} {c j : Nat} : (xm_145 M v1).2.2.1 c j = M.2.2.1 c j := by
  unfold xm_145
  by_cases hz : v1 < (0 : Int32)
  · rw [if_pos hz]
    first | done | exact rfl
  · rw [if_neg hz]
    by_cases hz : (4 : Int32) ≤ v1
    · rw [if_pos hz]
      first | done | exact rfl
    · rw [if_neg hz]
      first | done | exact rfl
/-- RefusedOnce$Land.counted(I)I -/
def xf_149 (M : ro_Mm) (v1 : Int32) : Int32 := (if v1 < (0 : Int32) then (0 : Int32) else (if (4 : Int32) ≤ v1 then (0 : Int32) else (M.2.1 11 (v1.toNatClampNeg))))
theorem xs_149 {X : ro_Sx} {M : ro_Mm} {v1 : Int32} (hL : ro_lay M) : ro_cwp X 1 149 [.ref 5, .int v1] M (fun v M2 => v = some (.int (xf_149 M v1)) ∧ M2 = M) := by
  refine rs_begin (lv0 := [(0, .ref 5), (1, .int v1)]) (by decide) rfl (by rw [rm_149.1]; exact Nat.le_of_ble_eq_true rfl) rfl ?_
  refine rs_iload_n ri_149_0 rfl rfl ?_
  refine rs_if_lt (t := 22) ri_149_1 rfl rfl (fun h1 => ?_) (fun h1 => ?_)
  · skip
    refine rs_iconst (v := (0 : Int32)) ri_149_22 rfl (by decide) ?_
    refine rs_iret ri_149_23 rm_149.2.1 (by decide) ?_
    exact ⟨by unfold xf_149; first | (simp only [if_pos h1]; done) | rfl, by rfl⟩
  · skip
    refine rs_iload_n ri_149_4 rfl rfl ?_
    refine rs_aload_n ri_149_5 rfl rfl ?_
    refine rs_gf (v := .ref 11) ri_149_6 rfl (by decide) (ro_kf (kd_5 hL)) rfl (rf_5_3 hL) ?_
    refine rs_len (v := (4 : Int32)) ri_149_9 rfl (by decide) (kd_11 hL) (by decide) rfl ?_
    refine rs_icmp_ge (t := 22) ri_149_10 rfl rfl (fun h2 => ?_) (fun h2 => ?_)
    · skip
      refine rs_iconst (v := (0 : Int32)) ri_149_22 rfl (by decide) ?_
      refine rs_iret ri_149_23 rm_149.2.1 (by decide) ?_
      exact ⟨by unfold xf_149; first | (simp only [if_neg h1, if_pos h2]; done) | rfl, by rfl⟩
    · skip
      refine rs_aload_n ri_149_13 rfl rfl ?_
      refine rs_gf (v := .ref 11) ri_149_14 rfl (by decide) (ro_kf (kd_5 hL)) rfl (rf_5_3 hL) ?_
      refine rs_iload_n ri_149_17 rfl rfl ?_
      refine rs_iald (v := (M.2.1 11 (v1.toNatClampNeg))) ri_149_18 rfl (by decide) (kd_11 hL) (vp_in_iff.mpr ⟨(ro_lo1 h1), (ro_hi2 h2 (by decide))⟩) rfl ?_
      refine rs_goto (t := 23) ri_149_19 rfl ?_
      refine rs_iret ri_149_23 rm_149.2.1 (by decide) ?_
      exact ⟨by unfold xf_149; first | (simp only [if_neg h1, if_neg h2]; done) | rfl, by rfl⟩
/-- RefusedOnce$Changes.undoOn(LRefusedOnce$Land;)Z -/
def xf_155 (M : ro_Mm) : Bool := (if ((M.2.1 54 4) - (1 : Int32)) < (0 : Int32) then false else (if ((M.2.1 54 4) - (1 : Int32)) < (40 : Int32) then true else false))
def xm_155 (M : ro_Mm) : ro_Mm := (if ((M.2.1 54 4) - (1 : Int32)) < (0 : Int32) then M else (if ((M.2.1 54 4) - (1 : Int32)) < (40 : Int32) then (ro_sI (ro_sI (xm_33 M (M.2.1 55 (((M.2.1 54 4) - (1 : Int32)).toNatClampNeg)) (M.2.1 56 (((M.2.1 54 4) - (1 : Int32)).toNatClampNeg)) (M.2.1 57 (((M.2.1 54 4) - (1 : Int32)).toNatClampNeg))) 54 4 ((M.2.1 54 4) - (1 : Int32))) 54 5 ((M.2.1 54 5) + (1 : Int32))) else M))
theorem xs_155 {X : ro_Sx} {M : ro_Mm} (hL : ro_lay M) : ro_cwp X 3 155 [.ref 54, .ref 5] M (fun v M2 => v = some (.int (ro_b (xf_155 M))) ∧ M2 = xm_155 M) := by
  refine rs_begin (lv0 := [(0, .ref 54), (1, .ref 5)]) (by decide) rfl (by rw [rm_155.1]; exact Nat.le_of_ble_eq_true rfl) rfl ?_
  refine rs_aload_n ri_155_0 rfl rfl ?_
  refine rs_gf (v := .int (M.2.1 54 4)) ri_155_1 rfl (by decide) (ro_kf (kd_54 hL)) rfl rfl ?_
  refine rs_iconst (v := (1 : Int32)) ri_155_4 rfl (by decide) ?_
  refine rs_isub (r := ((M.2.1 54 4) - (1 : Int32))) ri_155_5 rfl rfl ?_
  refine rs_istore_n (lv2 := [(2, .int ((M.2.1 54 4) - (1 : Int32))), (0, .ref 54), (1, .ref 5)]) ri_155_6 rfl rm_155.1 (by decide) rfl ?_
  refine rs_iload_n ri_155_7 rfl rfl ?_
  refine rs_if_lt (t := 17) ri_155_8 rfl rfl (fun h1 => ?_) (fun h1 => ?_)
  · skip
    refine rs_iconst (v := (0 : Int32)) ri_155_17 rfl (by decide) ?_
    refine rs_zret (p := false) ri_155_18 rm_155.2.1 (by decide) rfl ?_
    exact ⟨by unfold xf_155; first | (simp only [if_pos h1]; done) | rfl, by unfold xm_155; first | (simp only [if_pos h1]; done) | rfl⟩
  · skip
    refine rs_iload_n ri_155_11 rfl rfl ?_
    refine rs_bipush (v := (40 : Int32)) ri_155_12 rfl (by decide) ?_
    refine rs_icmp_lt (t := 19) ri_155_14 rfl rfl (fun h2 => ?_) (fun h2 => ?_)
    · skip
      refine rs_aload_n ri_155_19 rfl rfl ?_
      refine rs_aload_n ri_155_20 rfl rfl ?_
      refine rs_gf (v := .ref 55) ri_155_21 rfl (by decide) (ro_kf (kd_54 hL)) rfl (rf_54_0 hL) ?_
      refine rs_iload_n ri_155_24 rfl rfl ?_
      refine rs_iald (v := (M.2.1 55 (((M.2.1 54 4) - (1 : Int32)).toNatClampNeg))) ri_155_25 rfl (by decide) (kd_55 hL) (vp_in_iff.mpr ⟨(ro_lo1 h1), (ro_hi1 h2 (by decide))⟩) rfl ?_
      refine rs_aload_n ri_155_26 rfl rfl ?_
      refine rs_gf (v := .ref 56) ri_155_27 rfl (by decide) (ro_kf (kd_54 hL)) rfl (rf_54_1 hL) ?_
      refine rs_iload_n ri_155_30 rfl rfl ?_
      refine rs_iald (v := (M.2.1 56 (((M.2.1 54 4) - (1 : Int32)).toNatClampNeg))) ri_155_31 rfl (by decide) (kd_56 hL) (vp_in_iff.mpr ⟨(ro_lo1 h1), (ro_hi1 h2 (by decide))⟩) rfl ?_
      refine rs_aload_n ri_155_32 rfl rfl ?_
      refine rs_gf (v := .ref 57) ri_155_33 rfl (by decide) (ro_kf (kd_54 hL)) rfl (rf_54_2 hL) ?_
      refine rs_iload_n ri_155_36 rfl rfl ?_
      refine rs_iald (v := (M.2.1 57 (((M.2.1 54 4) - (1 : Int32)).toNatClampNeg))) ri_155_37 rfl (by decide) (kd_57 hL) (vp_in_iff.mpr ⟨(ro_lo1 h1), (ro_hi1 h2 (by decide))⟩) rfl ?_
      refine rs_virt (As := [.int (M.2.1 55 (((M.2.1 54 4) - (1 : Int32)).toNatClampNeg)), .int (M.2.1 56 (((M.2.1 54 4) - (1 : Int32)).toNatClampNeg)), .int (M.2.1 57 (((M.2.1 54 4) - (1 : Int32)).toNatClampNeg))]) (r := []) ri_155_38 rfl (by decide) rm_33.2.2.2 rm_33.2.2.1 rfl rfl rfl (by decide) (ro_kf (kd_5 hL)) (Nat.le_of_ble_eq_true rfl) (by decide) (by decide) (xs_33 (X := X) hL) ?_
      rintro _ _ ⟨e1, e2⟩
      rw [e1, e2]
      show ro_w X _ 155 _ 41 [(2, .int ((M.2.1 54 4) - (1 : Int32))), (0, .ref 54), (1, .ref 5)] [] (xm_33 M (M.2.1 55 (((M.2.1 54 4) - (1 : Int32)).toNatClampNeg)) (M.2.1 56 (((M.2.1 54 4) - (1 : Int32)).toNatClampNeg)) (M.2.1 57 (((M.2.1 54 4) - (1 : Int32)).toNatClampNeg))) (0, 0)
      refine rs_aload_n ri_155_41 rfl rfl ?_
      refine rs_dup ri_155_42 rfl rfl ?_
      refine rs_gf (v := .int (M.2.1 54 4)) ri_155_43 rfl (by decide) (ro_kf (kd_54 (xl_33 hL))) rfl (congrArg Value.int (xwI_33 (by decide) (by decide) (by decide) (by decide) (by decide))) ?_
      refine rs_iconst (v := (1 : Int32)) ri_155_46 rfl (by decide) ?_
      refine rs_isub (r := ((M.2.1 54 4) - (1 : Int32))) ri_155_47 rfl rfl ?_
      refine rs_pf (M2 := (ro_sI (xm_33 M (M.2.1 55 (((M.2.1 54 4) - (1 : Int32)).toNatClampNeg)) (M.2.1 56 (((M.2.1 54 4) - (1 : Int32)).toNatClampNeg)) (M.2.1 57 (((M.2.1 54 4) - (1 : Int32)).toNatClampNeg))) 54 4 ((M.2.1 54 4) - (1 : Int32)))) ri_155_48 rfl (by decide) (ro_kf (kd_54 (xl_33 hL))) (fun h => absurd h (by decide)) (fun f h => h) ?_
      refine rs_aload_n ri_155_51 rfl rfl ?_
      refine rs_dup ri_155_52 rfl rfl ?_
      refine rs_gf (v := .int (M.2.1 54 5)) ri_155_53 rfl (by decide) (ro_kf (kd_54 (xl_33 hL))) rfl (congrArg Value.int (xwI_33 (by decide) (by decide) (by decide) (by decide) (by decide))) ?_
      refine rs_iconst (v := (1 : Int32)) ri_155_56 rfl (by decide) ?_
      refine rs_iadd (r := ((M.2.1 54 5) + (1 : Int32))) ri_155_57 rfl rfl ?_
      refine rs_pf (M2 := (ro_sI (ro_sI (xm_33 M (M.2.1 55 (((M.2.1 54 4) - (1 : Int32)).toNatClampNeg)) (M.2.1 56 (((M.2.1 54 4) - (1 : Int32)).toNatClampNeg)) (M.2.1 57 (((M.2.1 54 4) - (1 : Int32)).toNatClampNeg))) 54 4 ((M.2.1 54 4) - (1 : Int32))) 54 5 ((M.2.1 54 5) + (1 : Int32)))) ri_155_58 rfl (by decide) (ro_kf (kd_54 (xl_33 hL))) (fun h => absurd h (by decide)) (fun f h => h) ?_
      refine rs_iconst (v := (1 : Int32)) ri_155_61 rfl (by decide) ?_
      refine rs_zret (p := true) ri_155_62 rm_155.2.1 (by decide) rfl ?_
      exact ⟨by unfold xf_155; first | (simp only [if_neg h1, if_pos h2]; done) | rfl, by unfold xm_155; first | (simp only [if_neg h1, if_pos h2]; done) | rfl⟩
    · skip
      refine rs_iconst (v := (0 : Int32)) ri_155_17 rfl (by decide) ?_
      refine rs_zret (p := false) ri_155_18 rm_155.2.1 (by decide) rfl ?_
      exact ⟨by unfold xf_155; first | (simp only [if_neg h1, if_neg h2]; done) | rfl, by unfold xm_155; first | (simp only [if_neg h1, if_neg h2]; done) | rfl⟩
theorem xl_155 {M : ro_Mm} (hL : ro_lay M) : ro_lay (xm_155 M) := by
  unfold xm_155
  by_cases hz : ((M.2.1 54 4) - (1 : Int32)) < (0 : Int32)
  · skip
    rw [if_pos hz]
    exact hL
  · skip
    rw [if_neg hz]
    by_cases hz : ((M.2.1 54 4) - (1 : Int32)) < (40 : Int32)
    · skip
      rw [if_pos hz]
      exact (xl_33 hL)
    · skip
      rw [if_neg hz]
      exact hL
theorem xwI_155 {M : ro_Mm} {c j : Nat} (n0 : c ≠ 7) (n1 : c ≠ 8) (n2 : c ≠ 9) (n3 : c ≠ 10) (n4 : c ≠ 5) (n5 : c ≠ 54) : (xm_155 M).2.1 c j = M.2.1 c j := by
  unfold xm_155
  by_cases hz : ((M.2.1 54 4) - (1 : Int32)) < (0 : Int32)
  · rw [if_pos hz]
    first | done | exact rfl
  · rw [if_neg hz]
    by_cases hz : ((M.2.1 54 4) - (1 : Int32)) < (40 : Int32)
    · rw [if_pos hz]
      first | done | exact ((((ro_sI_ne n5)).trans (ro_sI_ne n5)).trans (xwI_33 n0 n1 n2 n3 n4))
    · rw [if_neg hz]
      first | done | exact rfl
theorem xwJ_155 {M : ro_Mm} {c j : Nat} : (xm_155 M).2.2.1 c j = M.2.2.1 c j := by
  unfold xm_155
  by_cases hz : ((M.2.1 54 4) - (1 : Int32)) < (0 : Int32)
  · rw [if_pos hz]
    first | done | exact rfl
  · rw [if_neg hz]
    by_cases hz : ((M.2.1 54 4) - (1 : Int32)) < (40 : Int32)
    · rw [if_pos hz]
      first | done | exact (xwJ_33)
    · rw [if_neg hz]
      first | done | exact rfl
/-- RefusedOnce$Changes.mayBeUndone()I -/
def xf_156 (M : ro_Mm) : Int32 := (M.2.1 54 4)
theorem xs_156 {X : ro_Sx} {M : ro_Mm} (hL : ro_lay M) : ro_cwp X 1 156 [.ref 54] M (fun v M2 => v = some (.int (xf_156 M)) ∧ M2 = M) := by
  refine rs_begin (lv0 := [(0, .ref 54)]) (by decide) rfl (by rw [rm_156.1]; exact Nat.le_of_ble_eq_true rfl) rfl ?_
  refine rs_aload_n ri_156_0 rfl rfl ?_
  refine rs_gf (v := .int (M.2.1 54 4)) ri_156_1 rfl (by decide) (ro_kf (kd_54 hL)) rfl rfl ?_
  refine rs_iret ri_156_4 rm_156.2.1 (by decide) ?_
  exact ⟨by rfl, by rfl⟩
/-- RefusedOnce$Changes.redoOn(LRefusedOnce$Land;)Z -/
def xf_158 (M : ro_Mm) : Bool := (if (M.2.1 54 5) ≤ (0 : Int32) then false else (if (M.2.1 54 4) < (0 : Int32) then false else (if (M.2.1 54 4) < (40 : Int32) then true else false)))
def xm_158 (M : ro_Mm) : ro_Mm := (if (M.2.1 54 5) ≤ (0 : Int32) then M else (if (M.2.1 54 4) < (0 : Int32) then M else (if (M.2.1 54 4) < (40 : Int32) then (ro_sI (ro_sI (xm_33 M (M.2.1 55 ((M.2.1 54 4).toNatClampNeg)) (M.2.1 56 ((M.2.1 54 4).toNatClampNeg)) (M.2.1 58 ((M.2.1 54 4).toNatClampNeg))) 54 4 ((M.2.1 54 4) + (1 : Int32))) 54 5 ((M.2.1 54 5) - (1 : Int32))) else M)))
theorem xs_158 {X : ro_Sx} {M : ro_Mm} (hL : ro_lay M) : ro_cwp X 3 158 [.ref 54, .ref 5] M (fun v M2 => v = some (.int (ro_b (xf_158 M))) ∧ M2 = xm_158 M) := by
  refine rs_begin (lv0 := [(0, .ref 54), (1, .ref 5)]) (by decide) rfl (by rw [rm_158.1]; exact Nat.le_of_ble_eq_true rfl) rfl ?_
  refine rs_aload_n ri_158_0 rfl rfl ?_
  refine rs_gf (v := .int (M.2.1 54 5)) ri_158_1 rfl (by decide) (ro_kf (kd_54 hL)) rfl rfl ?_
  refine rs_if_le (t := 23) ri_158_4 rfl rfl (fun h1 => ?_) (fun h1 => ?_)
  · skip
    refine rs_iconst (v := (0 : Int32)) ri_158_23 rfl (by decide) ?_
    refine rs_zret (p := false) ri_158_24 rm_158.2.1 (by decide) rfl ?_
    exact ⟨by unfold xf_158; first | (simp only [if_pos h1]; done) | rfl, by unfold xm_158; first | (simp only [if_pos h1]; done) | rfl⟩
  · skip
    refine rs_aload_n ri_158_7 rfl rfl ?_
    refine rs_gf (v := .int (M.2.1 54 4)) ri_158_8 rfl (by decide) (ro_kf (kd_54 hL)) rfl rfl ?_
    refine rs_if_lt (t := 23) ri_158_11 rfl rfl (fun h2 => ?_) (fun h2 => ?_)
    · skip
      refine rs_iconst (v := (0 : Int32)) ri_158_23 rfl (by decide) ?_
      refine rs_zret (p := false) ri_158_24 rm_158.2.1 (by decide) rfl ?_
      exact ⟨by unfold xf_158; first | (simp only [if_neg h1, if_pos h2]; done) | rfl, by unfold xm_158; first | (simp only [if_neg h1, if_pos h2]; done) | rfl⟩
    · skip
      refine rs_aload_n ri_158_14 rfl rfl ?_
      refine rs_gf (v := .int (M.2.1 54 4)) ri_158_15 rfl (by decide) (ro_kf (kd_54 hL)) rfl rfl ?_
      refine rs_bipush (v := (40 : Int32)) ri_158_18 rfl (by decide) ?_
      refine rs_icmp_lt (t := 25) ri_158_20 rfl rfl (fun h3 => ?_) (fun h3 => ?_)
      · skip
        refine rs_aload_n ri_158_25 rfl rfl ?_
        refine rs_aload_n ri_158_26 rfl rfl ?_
        refine rs_gf (v := .ref 55) ri_158_27 rfl (by decide) (ro_kf (kd_54 hL)) rfl (rf_54_0 hL) ?_
        refine rs_aload_n ri_158_30 rfl rfl ?_
        refine rs_gf (v := .int (M.2.1 54 4)) ri_158_31 rfl (by decide) (ro_kf (kd_54 hL)) rfl rfl ?_
        refine rs_iald (v := (M.2.1 55 ((M.2.1 54 4).toNatClampNeg))) ri_158_34 rfl (by decide) (kd_55 hL) (vp_in_iff.mpr ⟨(ro_lo1 h2), (ro_hi1 h3 (by decide))⟩) rfl ?_
        refine rs_aload_n ri_158_35 rfl rfl ?_
        refine rs_gf (v := .ref 56) ri_158_36 rfl (by decide) (ro_kf (kd_54 hL)) rfl (rf_54_1 hL) ?_
        refine rs_aload_n ri_158_39 rfl rfl ?_
        refine rs_gf (v := .int (M.2.1 54 4)) ri_158_40 rfl (by decide) (ro_kf (kd_54 hL)) rfl rfl ?_
        refine rs_iald (v := (M.2.1 56 ((M.2.1 54 4).toNatClampNeg))) ri_158_43 rfl (by decide) (kd_56 hL) (vp_in_iff.mpr ⟨(ro_lo1 h2), (ro_hi1 h3 (by decide))⟩) rfl ?_
        refine rs_aload_n ri_158_44 rfl rfl ?_
        refine rs_gf (v := .ref 58) ri_158_45 rfl (by decide) (ro_kf (kd_54 hL)) rfl (rf_54_3 hL) ?_
        refine rs_aload_n ri_158_48 rfl rfl ?_
        refine rs_gf (v := .int (M.2.1 54 4)) ri_158_49 rfl (by decide) (ro_kf (kd_54 hL)) rfl rfl ?_
        refine rs_iald (v := (M.2.1 58 ((M.2.1 54 4).toNatClampNeg))) ri_158_52 rfl (by decide) (kd_58 hL) (vp_in_iff.mpr ⟨(ro_lo1 h2), (ro_hi1 h3 (by decide))⟩) rfl ?_
        refine rs_virt (As := [.int (M.2.1 55 ((M.2.1 54 4).toNatClampNeg)), .int (M.2.1 56 ((M.2.1 54 4).toNatClampNeg)), .int (M.2.1 58 ((M.2.1 54 4).toNatClampNeg))]) (r := []) ri_158_53 rfl (by decide) rm_33.2.2.2 rm_33.2.2.1 rfl rfl rfl (by decide) (ro_kf (kd_5 hL)) (Nat.le_of_ble_eq_true rfl) (by decide) (by decide) (xs_33 (X := X) hL) ?_
        rintro _ _ ⟨e1, e2⟩
        rw [e1, e2]
        show ro_w X _ 158 _ 56 [(0, .ref 54), (1, .ref 5)] [] (xm_33 M (M.2.1 55 ((M.2.1 54 4).toNatClampNeg)) (M.2.1 56 ((M.2.1 54 4).toNatClampNeg)) (M.2.1 58 ((M.2.1 54 4).toNatClampNeg))) (0, 0)
        refine rs_aload_n ri_158_56 rfl rfl ?_
        refine rs_dup ri_158_57 rfl rfl ?_
        refine rs_gf (v := .int (M.2.1 54 4)) ri_158_58 rfl (by decide) (ro_kf (kd_54 (xl_33 hL))) rfl (congrArg Value.int (xwI_33 (by decide) (by decide) (by decide) (by decide) (by decide))) ?_
        refine rs_iconst (v := (1 : Int32)) ri_158_61 rfl (by decide) ?_
        refine rs_iadd (r := ((M.2.1 54 4) + (1 : Int32))) ri_158_62 rfl rfl ?_
        refine rs_pf (M2 := (ro_sI (xm_33 M (M.2.1 55 ((M.2.1 54 4).toNatClampNeg)) (M.2.1 56 ((M.2.1 54 4).toNatClampNeg)) (M.2.1 58 ((M.2.1 54 4).toNatClampNeg))) 54 4 ((M.2.1 54 4) + (1 : Int32)))) ri_158_63 rfl (by decide) (ro_kf (kd_54 (xl_33 hL))) (fun h => absurd h (by decide)) (fun f h => h) ?_
        refine rs_aload_n ri_158_66 rfl rfl ?_
        refine rs_dup ri_158_67 rfl rfl ?_
        refine rs_gf (v := .int (M.2.1 54 5)) ri_158_68 rfl (by decide) (ro_kf (kd_54 (xl_33 hL))) rfl (congrArg Value.int (xwI_33 (by decide) (by decide) (by decide) (by decide) (by decide))) ?_
        refine rs_iconst (v := (1 : Int32)) ri_158_71 rfl (by decide) ?_
        refine rs_isub (r := ((M.2.1 54 5) - (1 : Int32))) ri_158_72 rfl rfl ?_
        refine rs_pf (M2 := (ro_sI (ro_sI (xm_33 M (M.2.1 55 ((M.2.1 54 4).toNatClampNeg)) (M.2.1 56 ((M.2.1 54 4).toNatClampNeg)) (M.2.1 58 ((M.2.1 54 4).toNatClampNeg))) 54 4 ((M.2.1 54 4) + (1 : Int32))) 54 5 ((M.2.1 54 5) - (1 : Int32)))) ri_158_73 rfl (by decide) (ro_kf (kd_54 (xl_33 hL))) (fun h => absurd h (by decide)) (fun f h => h) ?_
        refine rs_iconst (v := (1 : Int32)) ri_158_76 rfl (by decide) ?_
        refine rs_zret (p := true) ri_158_77 rm_158.2.1 (by decide) rfl ?_
        exact ⟨by unfold xf_158; first | (simp only [if_neg h1, if_neg h2, if_pos h3]; done) | rfl, by unfold xm_158; first | (simp only [if_neg h1, if_neg h2, if_pos h3]; done) | rfl⟩
      · skip
        refine rs_iconst (v := (0 : Int32)) ri_158_23 rfl (by decide) ?_
        refine rs_zret (p := false) ri_158_24 rm_158.2.1 (by decide) rfl ?_
        exact ⟨by unfold xf_158; first | (simp only [if_neg h1, if_neg h2, if_neg h3]; done) | rfl, by unfold xm_158; first | (simp only [if_neg h1, if_neg h2, if_neg h3]; done) | rfl⟩
theorem xl_158 {M : ro_Mm} (hL : ro_lay M) : ro_lay (xm_158 M) := by
  unfold xm_158
  by_cases hz : (M.2.1 54 5) ≤ (0 : Int32)
  · skip
    rw [if_pos hz]
    exact hL
  · skip
    rw [if_neg hz]
    by_cases hz : (M.2.1 54 4) < (0 : Int32)
    · skip
      rw [if_pos hz]
      exact hL
    · skip
      rw [if_neg hz]
      by_cases hz : (M.2.1 54 4) < (40 : Int32)
      · skip
        rw [if_pos hz]
        exact (xl_33 hL)
      · skip
        rw [if_neg hz]
        exact hL
theorem xwI_158 {M : ro_Mm} {c j : Nat} (n0 : c ≠ 7) (n1 : c ≠ 8) (n2 : c ≠ 9) (n3 : c ≠ 10) (n4 : c ≠ 5) (n5 : c ≠ 54) : (xm_158 M).2.1 c j = M.2.1 c j := by
  unfold xm_158
  by_cases hz : (M.2.1 54 5) ≤ (0 : Int32)
  · rw [if_pos hz]
    first | done | exact rfl
  · rw [if_neg hz]
    by_cases hz : (M.2.1 54 4) < (0 : Int32)
    · rw [if_pos hz]
      first | done | exact rfl
    · rw [if_neg hz]
      by_cases hz : (M.2.1 54 4) < (40 : Int32)
      · rw [if_pos hz]
        first | done | exact ((((ro_sI_ne n5)).trans (ro_sI_ne n5)).trans (xwI_33 n0 n1 n2 n3 n4))
      · rw [if_neg hz]
        first | done | exact rfl
theorem xwJ_158 {M : ro_Mm} {c j : Nat} : (xm_158 M).2.2.1 c j = M.2.2.1 c j := by
  unfold xm_158
  by_cases hz : (M.2.1 54 5) ≤ (0 : Int32)
  · rw [if_pos hz]
    first | done | exact rfl
  · rw [if_neg hz]
    by_cases hz : (M.2.1 54 4) < (0 : Int32)
    · rw [if_pos hz]
      first | done | exact rfl
    · rw [if_neg hz]
      by_cases hz : (M.2.1 54 4) < (40 : Int32)
      · rw [if_pos hz]
        first | done | exact (xwJ_33)
      · rw [if_neg hz]
        first | done | exact rfl
/-- RefusedOnce$Changes.mayBeRedone()I -/
def xf_159 (M : ro_Mm) : Int32 := (M.2.1 54 5)
theorem xs_159 {X : ro_Sx} {M : ro_Mm} (hL : ro_lay M) : ro_cwp X 1 159 [.ref 54] M (fun v M2 => v = some (.int (xf_159 M)) ∧ M2 = M) := by
  refine rs_begin (lv0 := [(0, .ref 54)]) (by decide) rfl (by rw [rm_159.1]; exact Nat.le_of_ble_eq_true rfl) rfl ?_
  refine rs_aload_n ri_159_0 rfl rfl ?_
  refine rs_gf (v := .int (M.2.1 54 5)) ri_159_1 rfl (by decide) (ro_kf (kd_54 hL)) rfl rfl ?_
  refine rs_iret ri_159_4 rm_159.2.1 (by decide) ?_
  exact ⟨by rfl, by rfl⟩
/-- RefusedOnce$Bodies.isKind(I)Z -/
def xf_161 (M : ro_Mm) (v0 : Int32) : Bool := (if v0 < (0 : Int32) then false else (if (8 : Int32) ≤ v0 then false else true))
theorem xs_161 {X : ro_Sx} {M : ro_Mm} {v0 : Int32} (hL : ro_lay M) : ro_cwp X 1 161 [.int v0] M (fun v M2 => v = some (.int (ro_b (xf_161 M v0))) ∧ M2 = M) := by
  refine rs_begin (lv0 := [(0, .int v0)]) (by decide) rfl (by rw [rm_161.1]; exact Nat.le_of_ble_eq_true rfl) rfl ?_
  refine rs_iload_n ri_161_0 rfl rfl ?_
  refine rs_if_lt (t := 14) ri_161_1 rfl rfl (fun h1 => ?_) (fun h1 => ?_)
  · skip
    refine rs_iconst (v := (0 : Int32)) ri_161_14 rfl (by decide) ?_
    refine rs_zret (p := false) ri_161_15 rm_161.2.1 (by decide) rfl ?_
    exact ⟨by unfold xf_161; first | (simp only [if_pos h1]; done) | rfl, by rfl⟩
  · skip
    refine rs_iload_n ri_161_4 rfl rfl ?_
    refine rs_bipush (v := (8 : Int32)) ri_161_5 rfl (by decide) ?_
    refine rs_icmp_ge (t := 14) ri_161_7 rfl rfl (fun h2 => ?_) (fun h2 => ?_)
    · skip
      refine rs_iconst (v := (0 : Int32)) ri_161_14 rfl (by decide) ?_
      refine rs_zret (p := false) ri_161_15 rm_161.2.1 (by decide) rfl ?_
      exact ⟨by unfold xf_161; first | (simp only [if_neg h1, if_pos h2]; done) | rfl, by rfl⟩
    · skip
      refine rs_iconst (v := (1 : Int32)) ri_161_10 rfl (by decide) ?_
      refine rs_goto (t := 15) ri_161_11 rfl ?_
      refine rs_zret (p := true) ri_161_15 rm_161.2.1 (by decide) rfl ?_
      exact ⟨by unfold xf_161; first | (simp only [if_neg h1, if_neg h2]; done) | rfl, by rfl⟩
/-- RefusedOnce$Bodies.comes(I)Z -/
def xf_162 (M : ro_Mm) (v1 : Int32) : Bool := (if (M.2.1 59 2) < (0 : Int32) then false else (if (M.2.1 59 2) < (50 : Int32) then true else false))
def xm_162 (M : ro_Mm) (v1 : Int32) : ro_Mm := (if (M.2.1 59 2) < (0 : Int32) then M else (if (M.2.1 59 2) < (50 : Int32) then (ro_sI (ro_sI M 60 ((M.2.1 59 2).toNatClampNeg) v1) 59 2 ((M.2.1 59 2) + (1 : Int32))) else M))
theorem xs_162 {X : ro_Sx} {M : ro_Mm} {v1 : Int32} (hL : ro_lay M) : ro_cwp X 1 162 [.ref 59, .int v1] M (fun v M2 => v = some (.int (ro_b (xf_162 M v1))) ∧ M2 = xm_162 M v1) := by
  refine rs_begin (lv0 := [(0, .ref 59), (1, .int v1)]) (by decide) rfl (by rw [rm_162.1]; exact Nat.le_of_ble_eq_true rfl) rfl ?_
  refine rs_aload_n ri_162_0 rfl rfl ?_
  refine rs_gf (v := .int (M.2.1 59 2)) ri_162_1 rfl (by decide) (ro_kf (kd_59 hL)) rfl rfl ?_
  refine rs_if_lt (t := 19) ri_162_4 rfl rfl (fun h1 => ?_) (fun h1 => ?_)
  · skip
    refine rs_iconst (v := (0 : Int32)) ri_162_19 rfl (by decide) ?_
    refine rs_zret (p := false) ri_162_20 rm_162.2.1 (by decide) rfl ?_
    exact ⟨by unfold xf_162; first | (simp only [if_pos h1]; done) | rfl, by unfold xm_162; first | (simp only [if_pos h1]; done) | rfl⟩
  · skip
    refine rs_aload_n ri_162_7 rfl rfl ?_
    refine rs_gf (v := .int (M.2.1 59 2)) ri_162_8 rfl (by decide) (ro_kf (kd_59 hL)) rfl rfl ?_
    refine rs_aload_n ri_162_11 rfl rfl ?_
    refine rs_gf (v := .ref 60) ri_162_12 rfl (by decide) (ro_kf (kd_59 hL)) rfl (rf_59_0 hL) ?_
    refine rs_len (v := (50 : Int32)) ri_162_15 rfl (by decide) (kd_60 hL) (by decide) rfl ?_
    refine rs_icmp_lt (t := 21) ri_162_16 rfl rfl (fun h2 => ?_) (fun h2 => ?_)
    · skip
      refine rs_aload_n ri_162_21 rfl rfl ?_
      refine rs_gf (v := .ref 60) ri_162_22 rfl (by decide) (ro_kf (kd_59 hL)) rfl (rf_59_0 hL) ?_
      refine rs_aload_n ri_162_25 rfl rfl ?_
      refine rs_gf (v := .int (M.2.1 59 2)) ri_162_26 rfl (by decide) (ro_kf (kd_59 hL)) rfl rfl ?_
      refine rs_iload_n ri_162_29 rfl rfl ?_
      refine rs_iast (j := (M.2.1 59 2).toNatClampNeg) ri_162_30 rfl (by decide) (kd_60 hL) (vp_in_iff.mpr ⟨(ro_lo1 h1), (ro_hi1 h2 (by decide))⟩) rfl ?_
      refine rs_aload_n ri_162_31 rfl rfl ?_
      refine rs_dup ri_162_32 rfl rfl ?_
      refine rs_gf (v := .int (M.2.1 59 2)) ri_162_33 rfl (by decide) (ro_kf (kd_59 hL)) rfl rfl ?_
      refine rs_iconst (v := (1 : Int32)) ri_162_36 rfl (by decide) ?_
      refine rs_iadd (r := ((M.2.1 59 2) + (1 : Int32))) ri_162_37 rfl rfl ?_
      refine rs_pf (M2 := (ro_sI (ro_sI M 60 ((M.2.1 59 2).toNatClampNeg) v1) 59 2 ((M.2.1 59 2) + (1 : Int32)))) ri_162_38 rfl (by decide) (ro_kf (kd_59 hL)) (fun h => absurd h (by decide)) (fun f h => h) ?_
      refine rs_iconst (v := (1 : Int32)) ri_162_41 rfl (by decide) ?_
      refine rs_zret (p := true) ri_162_42 rm_162.2.1 (by decide) rfl ?_
      exact ⟨by unfold xf_162; first | (simp only [if_neg h1, if_pos h2]; done) | rfl, by unfold xm_162; first | (simp only [if_neg h1, if_pos h2]; done) | rfl⟩
    · skip
      refine rs_iconst (v := (0 : Int32)) ri_162_19 rfl (by decide) ?_
      refine rs_zret (p := false) ri_162_20 rm_162.2.1 (by decide) rfl ?_
      exact ⟨by unfold xf_162; first | (simp only [if_neg h1, if_neg h2]; done) | rfl, by unfold xm_162; first | (simp only [if_neg h1, if_neg h2]; done) | rfl⟩
theorem xl_162 {M : ro_Mm} {v1 : Int32} (hL : ro_lay M) : ro_lay (xm_162 M v1) := by
  unfold xm_162
  by_cases hz : (M.2.1 59 2) < (0 : Int32)
  · skip
    rw [if_pos hz]
    exact hL
  · skip
    rw [if_neg hz]
    by_cases hz : (M.2.1 59 2) < (50 : Int32)
    · skip
      rw [if_pos hz]
      exact hL
    · skip
      rw [if_neg hz]
      exact hL
theorem xwI_162 {M : ro_Mm} {v1 : Int32} {c j : Nat} (n0 : c ≠ 60) (n1 : c ≠ 59) : (xm_162 M v1).2.1 c j = M.2.1 c j := by
  unfold xm_162
  by_cases hz : (M.2.1 59 2) < (0 : Int32)
  · rw [if_pos hz]
    first | done | exact rfl
  · rw [if_neg hz]
    by_cases hz : (M.2.1 59 2) < (50 : Int32)
    · rw [if_pos hz]
      first | done | exact (((ro_sI_ne n1)).trans (ro_sI_ne n0))
    · rw [if_neg hz]
      first | done | exact rfl
theorem xwJ_162 {M : ro_Mm} {v1 : Int32} {c j : Nat} : (xm_162 M v1).2.2.1 c j = M.2.2.1 c j := by
  unfold xm_162
  by_cases hz : (M.2.1 59 2) < (0 : Int32)
  · rw [if_pos hz]
    first | done | exact rfl
  · rw [if_neg hz]
    by_cases hz : (M.2.1 59 2) < (50 : Int32)
    · rw [if_pos hz]
      first | done | exact rfl
    · rw [if_neg hz]
      first | done | exact rfl
/-- RefusedOnce$Bodies.howMany()I -/
def xf_163 (M : ro_Mm) : Int32 := (M.2.1 59 2)
theorem xs_163 {X : ro_Sx} {M : ro_Mm} (hL : ro_lay M) : ro_cwp X 1 163 [.ref 59] M (fun v M2 => v = some (.int (xf_163 M)) ∧ M2 = M) := by
  refine rs_begin (lv0 := [(0, .ref 59)]) (by decide) rfl (by rw [rm_163.1]; exact Nat.le_of_ble_eq_true rfl) rfl ?_
  refine rs_aload_n ri_163_0 rfl rfl ?_
  refine rs_gf (v := .int (M.2.1 59 2)) ri_163_1 rfl (by decide) (ro_kf (kd_59 hL)) rfl rfl ?_
  refine rs_iret ri_163_4 rm_163.2.1 (by decide) ?_
  exact ⟨by rfl, by rfl⟩
/-- RefusedOnce$Bodies.kindOf(I)I -/
def xf_166 (M : ro_Mm) (v1 : Int32) : Int32 := (if v1 < (0 : Int32) then (-1 : Int32) else (if (M.2.1 59 2) ≤ v1 then (-1 : Int32) else (if (50 : Int32) ≤ v1 then (-1 : Int32) else (M.2.1 60 (v1.toNatClampNeg)))))
theorem xs_166 {X : ro_Sx} {M : ro_Mm} {v1 : Int32} (hL : ro_lay M) : ro_cwp X 1 166 [.ref 59, .int v1] M (fun v M2 => v = some (.int (xf_166 M v1)) ∧ M2 = M) := by
  refine rs_begin (lv0 := [(0, .ref 59), (1, .int v1)]) (by decide) rfl (by rw [rm_166.1]; exact Nat.le_of_ble_eq_true rfl) rfl ?_
  refine rs_iload_n ri_166_0 rfl rfl ?_
  refine rs_if_lt (t := 30) ri_166_1 rfl rfl (fun h1 => ?_) (fun h1 => ?_)
  · skip
    refine rs_iconst (v := (-1 : Int32)) ri_166_30 rfl (by decide) ?_
    refine rs_iret ri_166_31 rm_166.2.1 (by decide) ?_
    exact ⟨by unfold xf_166; first | (simp only [if_pos h1]; done) | rfl, by rfl⟩
  · skip
    refine rs_iload_n ri_166_4 rfl rfl ?_
    refine rs_aload_n ri_166_5 rfl rfl ?_
    refine rs_gf (v := .int (M.2.1 59 2)) ri_166_6 rfl (by decide) (ro_kf (kd_59 hL)) rfl rfl ?_
    refine rs_icmp_ge (t := 30) ri_166_9 rfl rfl (fun h2 => ?_) (fun h2 => ?_)
    · skip
      refine rs_iconst (v := (-1 : Int32)) ri_166_30 rfl (by decide) ?_
      refine rs_iret ri_166_31 rm_166.2.1 (by decide) ?_
      exact ⟨by unfold xf_166; first | (simp only [if_neg h1, if_pos h2]; done) | rfl, by rfl⟩
    · skip
      refine rs_iload_n ri_166_12 rfl rfl ?_
      refine rs_aload_n ri_166_13 rfl rfl ?_
      refine rs_gf (v := .ref 60) ri_166_14 rfl (by decide) (ro_kf (kd_59 hL)) rfl (rf_59_0 hL) ?_
      refine rs_len (v := (50 : Int32)) ri_166_17 rfl (by decide) (kd_60 hL) (by decide) rfl ?_
      refine rs_icmp_ge (t := 30) ri_166_18 rfl rfl (fun h3 => ?_) (fun h3 => ?_)
      · skip
        refine rs_iconst (v := (-1 : Int32)) ri_166_30 rfl (by decide) ?_
        refine rs_iret ri_166_31 rm_166.2.1 (by decide) ?_
        exact ⟨by unfold xf_166; first | (simp only [if_neg h1, if_neg h2, if_pos h3]; done) | rfl, by rfl⟩
      · skip
        refine rs_aload_n ri_166_21 rfl rfl ?_
        refine rs_gf (v := .ref 60) ri_166_22 rfl (by decide) (ro_kf (kd_59 hL)) rfl (rf_59_0 hL) ?_
        refine rs_iload_n ri_166_25 rfl rfl ?_
        refine rs_iald (v := (M.2.1 60 (v1.toNatClampNeg))) ri_166_26 rfl (by decide) (kd_60 hL) (vp_in_iff.mpr ⟨(ro_lo1 h1), (ro_hi2 h3 (by decide))⟩) rfl ?_
        refine rs_goto (t := 31) ri_166_27 rfl ?_
        refine rs_iret ri_166_31 rm_166.2.1 (by decide) ?_
        exact ⟨by unfold xf_166; first | (simp only [if_neg h1, if_neg h2, if_neg h3]; done) | rfl, by rfl⟩
/-- RefusedOnce$Bodies.ownBody(II)I -/
def xf_168 (M : ro_Mm) (v0 : Int32) (v1 : Int32) : Int32 := (if v0 < (0 : Int32) then (0 : Int32) else (if ((v0 * (4 : Int32)) + v1) < (0 : Int32) then (0 : Int32) else (if (32 : Int32) ≤ ((v0 * (4 : Int32)) + v1) then (0 : Int32) else (ro_xv (0, fun _ => 0) 2 ((v0 * (4 : Int32)) + v1).toNatClampNeg))))
theorem xs_168 {X : ro_Sx} {M : ro_Mm} {v0 : Int32} {v1 : Int32} (hL : ro_lay M) : ro_cwp X 1 168 [.int v0, .int v1] M (fun v M2 => v = some (.int (xf_168 M v0 v1)) ∧ M2 = M) := by
  refine rs_begin (lv0 := [(0, .int v0), (1, .int v1)]) (by decide) rfl (by rw [rm_168.1]; exact Nat.le_of_ble_eq_true rfl) rfl ?_
  refine rs_iload_n ri_168_0 rfl rfl ?_
  refine rs_iconst (v := (4 : Int32)) ri_168_1 rfl (by decide) ?_
  refine rs_imul (r := (v0 * (4 : Int32))) ri_168_2 rfl rfl ?_
  refine rs_iload_n ri_168_3 rfl rfl ?_
  refine rs_iadd (r := ((v0 * (4 : Int32)) + v1)) ri_168_4 rfl rfl ?_
  refine rs_istore_n (lv2 := [(2, .int ((v0 * (4 : Int32)) + v1)), (0, .int v0), (1, .int v1)]) ri_168_5 rfl rm_168.1 (by decide) rfl ?_
  refine rs_iload_n ri_168_6 rfl rfl ?_
  refine rs_if_lt (t := 30) ri_168_7 rfl rfl (fun h1 => ?_) (fun h1 => ?_)
  · skip
    refine rs_iconst (v := (0 : Int32)) ri_168_30 rfl (by decide) ?_
    refine rs_iret ri_168_31 rm_168.2.1 (by decide) ?_
    exact ⟨by unfold xf_168; first | (simp only [if_pos h1]; done) | rfl, by rfl⟩
  · skip
    refine rs_iload_n ri_168_10 rfl rfl ?_
    refine rs_if_lt (t := 30) ri_168_11 rfl rfl (fun h2 => ?_) (fun h2 => ?_)
    · skip
      refine rs_iconst (v := (0 : Int32)) ri_168_30 rfl (by decide) ?_
      refine rs_iret ri_168_31 rm_168.2.1 (by decide) ?_
      exact ⟨by unfold xf_168; first | (simp only [if_neg h1, if_pos h2]; done) | rfl, by rfl⟩
    · skip
      refine rs_iload_n ri_168_14 rfl rfl ?_
      refine rs_gs ri_168_15 rfl ?_
      refine rs_len0 (v := (32 : Int32)) ri_168_18 rfl (by decide) rfl ?_
      refine rs_icmp_ge (t := 30) ri_168_19 rfl rfl (fun h3 => ?_) (fun h3 => ?_)
      · skip
        refine rs_iconst (v := (0 : Int32)) ri_168_30 rfl (by decide) ?_
        refine rs_iret ri_168_31 rm_168.2.1 (by decide) ?_
        exact ⟨by unfold xf_168; first | (simp only [if_neg h1, if_neg h2, if_pos h3]; done) | rfl, by rfl⟩
      · skip
        refine rs_gs ri_168_22 rfl ?_
        refine rs_iload_n ri_168_25 rfl rfl ?_
        refine rs_iald1 (n := 32) (v := (ro_xv (0, fun _ => 0) 2 ((v0 * (4 : Int32)) + v1).toNatClampNeg)) ri_168_26 rfl (by decide) rfl (vp_in_iff.mpr ⟨(ro_lo1 h2), (ro_hi2 h3 (by decide))⟩) (ro_xv0 (by decide)) ?_
        refine rs_goto (t := 31) ri_168_27 rfl ?_
        refine rs_iret ri_168_31 rm_168.2.1 (by decide) ?_
        exact ⟨by unfold xf_168; first | (simp only [if_neg h1, if_neg h2, if_neg h3]; done) | rfl, by rfl⟩
/-- RefusedOnce$Bodies.kindAbove(I)I -/
def xf_169 (M : ro_Mm) (v0 : Int32) : Int32 := (if v0 < (0 : Int32) then (-1 : Int32) else (if (8 : Int32) ≤ v0 then (-1 : Int32) else (ro_xv (0, fun _ => 0) 3 v0.toNatClampNeg)))
theorem xs_169 {X : ro_Sx} {M : ro_Mm} {v0 : Int32} (hL : ro_lay M) : ro_cwp X 1 169 [.int v0] M (fun v M2 => v = some (.int (xf_169 M v0)) ∧ M2 = M) := by
  refine rs_begin (lv0 := [(0, .int v0)]) (by decide) rfl (by rw [rm_169.1]; exact Nat.le_of_ble_eq_true rfl) rfl ?_
  refine rs_iload_n ri_169_0 rfl rfl ?_
  refine rs_if_lt (t := 20) ri_169_1 rfl rfl (fun h1 => ?_) (fun h1 => ?_)
  · skip
    refine rs_iconst (v := (-1 : Int32)) ri_169_20 rfl (by decide) ?_
    refine rs_iret ri_169_21 rm_169.2.1 (by decide) ?_
    exact ⟨by unfold xf_169; first | (simp only [if_pos h1]; done) | rfl, by rfl⟩
  · skip
    refine rs_iload_n ri_169_4 rfl rfl ?_
    refine rs_gs ri_169_5 rfl ?_
    refine rs_len0 (v := (8 : Int32)) ri_169_8 rfl (by decide) rfl ?_
    refine rs_icmp_ge (t := 20) ri_169_9 rfl rfl (fun h2 => ?_) (fun h2 => ?_)
    · skip
      refine rs_iconst (v := (-1 : Int32)) ri_169_20 rfl (by decide) ?_
      refine rs_iret ri_169_21 rm_169.2.1 (by decide) ?_
      exact ⟨by unfold xf_169; first | (simp only [if_neg h1, if_pos h2]; done) | rfl, by rfl⟩
    · skip
      refine rs_gs ri_169_12 rfl ?_
      refine rs_iload_n ri_169_15 rfl rfl ?_
      refine rs_iald1 (n := 8) (v := (ro_xv (0, fun _ => 0) 3 v0.toNatClampNeg)) ri_169_16 rfl (by decide) rfl (vp_in_iff.mpr ⟨(ro_lo1 h1), (ro_hi2 h2 (by decide))⟩) (ro_xv0 (by decide)) ?_
      refine rs_goto (t := 21) ri_169_17 rfl ?_
      refine rs_iret ri_169_21 rm_169.2.1 (by decide) ?_
      exact ⟨by unfold xf_169; first | (simp only [if_neg h1, if_neg h2]; done) | rfl, by rfl⟩
/-- RefusedOnce$Bodies.begins(I)V -/
def xm_170 (M : ro_Mm) (v1 : Int32) : ro_Mm := (if (M.2.1 59 3) < (0 : Int32) then (ro_sI M 59 3 ((M.2.1 59 3) + (1 : Int32))) else (if (24 : Int32) ≤ (M.2.1 59 3) then (ro_sI M 59 3 ((M.2.1 59 3) + (1 : Int32))) else (ro_sI (ro_sI M 61 ((M.2.1 59 3).toNatClampNeg) v1) 59 3 ((M.2.1 59 3) + (1 : Int32)))))
theorem xs_170 {X : ro_Sx} {M : ro_Mm} {v1 : Int32} (hL : ro_lay M) : ro_cwp X 1 170 [.ref 59, .int v1] M (fun v M2 => v = none ∧ M2 = xm_170 M v1) := by
  refine rs_begin (lv0 := [(0, .ref 59), (1, .int v1)]) (by decide) rfl (by rw [rm_170.1]; exact Nat.le_of_ble_eq_true rfl) rfl ?_
  refine rs_aload_n ri_170_0 rfl rfl ?_
  refine rs_gf (v := .int (M.2.1 59 3)) ri_170_1 rfl (by decide) (ro_kf (kd_59 hL)) rfl rfl ?_
  refine rs_if_lt (t := 29) ri_170_4 rfl rfl (fun h1 => ?_) (fun h1 => ?_)
  · skip
    refine rs_aload_n ri_170_29 rfl rfl ?_
    refine rs_dup ri_170_30 rfl rfl ?_
    refine rs_gf (v := .int (M.2.1 59 3)) ri_170_31 rfl (by decide) (ro_kf (kd_59 hL)) rfl rfl ?_
    refine rs_iconst (v := (1 : Int32)) ri_170_34 rfl (by decide) ?_
    refine rs_iadd (r := ((M.2.1 59 3) + (1 : Int32))) ri_170_35 rfl rfl ?_
    refine rs_pf (M2 := (ro_sI M 59 3 ((M.2.1 59 3) + (1 : Int32)))) ri_170_36 rfl (by decide) (ro_kf (kd_59 hL)) (fun h => absurd h (by decide)) (fun f h => h) ?_
    refine rs_ret ri_170_39 rm_170.2.1 (by decide) ?_
    exact ⟨by rfl, by unfold xm_170; first | (simp only [if_pos h1]; done) | rfl⟩
  · skip
    refine rs_aload_n ri_170_7 rfl rfl ?_
    refine rs_gf (v := .int (M.2.1 59 3)) ri_170_8 rfl (by decide) (ro_kf (kd_59 hL)) rfl rfl ?_
    refine rs_aload_n ri_170_11 rfl rfl ?_
    refine rs_gf (v := .ref 61) ri_170_12 rfl (by decide) (ro_kf (kd_59 hL)) rfl (rf_59_1 hL) ?_
    refine rs_len (v := (24 : Int32)) ri_170_15 rfl (by decide) (kd_61 hL) (by decide) rfl ?_
    refine rs_icmp_ge (t := 29) ri_170_16 rfl rfl (fun h2 => ?_) (fun h2 => ?_)
    · skip
      refine rs_aload_n ri_170_29 rfl rfl ?_
      refine rs_dup ri_170_30 rfl rfl ?_
      refine rs_gf (v := .int (M.2.1 59 3)) ri_170_31 rfl (by decide) (ro_kf (kd_59 hL)) rfl rfl ?_
      refine rs_iconst (v := (1 : Int32)) ri_170_34 rfl (by decide) ?_
      refine rs_iadd (r := ((M.2.1 59 3) + (1 : Int32))) ri_170_35 rfl rfl ?_
      refine rs_pf (M2 := (ro_sI M 59 3 ((M.2.1 59 3) + (1 : Int32)))) ri_170_36 rfl (by decide) (ro_kf (kd_59 hL)) (fun h => absurd h (by decide)) (fun f h => h) ?_
      refine rs_ret ri_170_39 rm_170.2.1 (by decide) ?_
      exact ⟨by rfl, by unfold xm_170; first | (simp only [if_neg h1, if_pos h2]; done) | rfl⟩
    · skip
      refine rs_aload_n ri_170_19 rfl rfl ?_
      refine rs_gf (v := .ref 61) ri_170_20 rfl (by decide) (ro_kf (kd_59 hL)) rfl (rf_59_1 hL) ?_
      refine rs_aload_n ri_170_23 rfl rfl ?_
      refine rs_gf (v := .int (M.2.1 59 3)) ri_170_24 rfl (by decide) (ro_kf (kd_59 hL)) rfl rfl ?_
      refine rs_iload_n ri_170_27 rfl rfl ?_
      refine rs_iast (j := (M.2.1 59 3).toNatClampNeg) ri_170_28 rfl (by decide) (kd_61 hL) (vp_in_iff.mpr ⟨(ro_lo1 h1), (ro_hi2 h2 (by decide))⟩) rfl ?_
      refine rs_aload_n ri_170_29 rfl rfl ?_
      refine rs_dup ri_170_30 rfl rfl ?_
      refine rs_gf (v := .int (M.2.1 59 3)) ri_170_31 rfl (by decide) (ro_kf (kd_59 hL)) rfl rfl ?_
      refine rs_iconst (v := (1 : Int32)) ri_170_34 rfl (by decide) ?_
      refine rs_iadd (r := ((M.2.1 59 3) + (1 : Int32))) ri_170_35 rfl rfl ?_
      refine rs_pf (M2 := (ro_sI (ro_sI M 61 ((M.2.1 59 3).toNatClampNeg) v1) 59 3 ((M.2.1 59 3) + (1 : Int32)))) ri_170_36 rfl (by decide) (ro_kf (kd_59 hL)) (fun h => absurd h (by decide)) (fun f h => h) ?_
      refine rs_ret ri_170_39 rm_170.2.1 (by decide) ?_
      exact ⟨by rfl, by unfold xm_170; first | (simp only [if_neg h1, if_neg h2]; done) | rfl⟩
theorem xl_170 {M : ro_Mm} {v1 : Int32} (hL : ro_lay M) : ro_lay (xm_170 M v1) := by
  unfold xm_170
  by_cases hz : (M.2.1 59 3) < (0 : Int32)
  · skip
    rw [if_pos hz]
    exact hL
  · skip
    rw [if_neg hz]
    by_cases hz : (24 : Int32) ≤ (M.2.1 59 3)
    · skip
      rw [if_pos hz]
      exact hL
    · skip
      rw [if_neg hz]
      exact hL
theorem xwI_170 {M : ro_Mm} {v1 : Int32} {c j : Nat} (n0 : c ≠ 59) (n1 : c ≠ 61) : (xm_170 M v1).2.1 c j = M.2.1 c j := by
  unfold xm_170
  by_cases hz : (M.2.1 59 3) < (0 : Int32)
  · rw [if_pos hz]
    first | done | exact (ro_sI_ne n0)
  · rw [if_neg hz]
    by_cases hz : (24 : Int32) ≤ (M.2.1 59 3)
    · rw [if_pos hz]
      first | done | exact (ro_sI_ne n0)
    · rw [if_neg hz]
      first | done | exact (((ro_sI_ne n0)).trans (ro_sI_ne n1))
theorem xwJ_170 {M : ro_Mm} {v1 : Int32} {c j : Nat} : (xm_170 M v1).2.2.1 c j = M.2.2.1 c j := by
  unfold xm_170
  by_cases hz : (M.2.1 59 3) < (0 : Int32)
  · rw [if_pos hz]
    first | done | exact rfl
  · rw [if_neg hz]
    by_cases hz : (24 : Int32) ≤ (M.2.1 59 3)
    · rw [if_pos hz]
      first | done | exact rfl
    · rw [if_neg hz]
      first | done | exact rfl
/-- RefusedOnce$Bodies.traced(I)I -/
def xf_174 (M : ro_Mm) (v1 : Int32) : Int32 := (if v1 < (0 : Int32) then (-1 : Int32) else (if (M.2.1 59 3) ≤ v1 then (-1 : Int32) else (if (24 : Int32) ≤ v1 then (-1 : Int32) else (M.2.1 61 (v1.toNatClampNeg)))))
theorem xs_174 {X : ro_Sx} {M : ro_Mm} {v1 : Int32} (hL : ro_lay M) : ro_cwp X 1 174 [.ref 59, .int v1] M (fun v M2 => v = some (.int (xf_174 M v1)) ∧ M2 = M) := by
  refine rs_begin (lv0 := [(0, .ref 59), (1, .int v1)]) (by decide) rfl (by rw [rm_174.1]; exact Nat.le_of_ble_eq_true rfl) rfl ?_
  refine rs_iload_n ri_174_0 rfl rfl ?_
  refine rs_if_lt (t := 30) ri_174_1 rfl rfl (fun h1 => ?_) (fun h1 => ?_)
  · skip
    refine rs_iconst (v := (-1 : Int32)) ri_174_30 rfl (by decide) ?_
    refine rs_iret ri_174_31 rm_174.2.1 (by decide) ?_
    exact ⟨by unfold xf_174; first | (simp only [if_pos h1]; done) | rfl, by rfl⟩
  · skip
    refine rs_iload_n ri_174_4 rfl rfl ?_
    refine rs_aload_n ri_174_5 rfl rfl ?_
    refine rs_gf (v := .int (M.2.1 59 3)) ri_174_6 rfl (by decide) (ro_kf (kd_59 hL)) rfl rfl ?_
    refine rs_icmp_ge (t := 30) ri_174_9 rfl rfl (fun h2 => ?_) (fun h2 => ?_)
    · skip
      refine rs_iconst (v := (-1 : Int32)) ri_174_30 rfl (by decide) ?_
      refine rs_iret ri_174_31 rm_174.2.1 (by decide) ?_
      exact ⟨by unfold xf_174; first | (simp only [if_neg h1, if_pos h2]; done) | rfl, by rfl⟩
    · skip
      refine rs_iload_n ri_174_12 rfl rfl ?_
      refine rs_aload_n ri_174_13 rfl rfl ?_
      refine rs_gf (v := .ref 61) ri_174_14 rfl (by decide) (ro_kf (kd_59 hL)) rfl (rf_59_1 hL) ?_
      refine rs_len (v := (24 : Int32)) ri_174_17 rfl (by decide) (kd_61 hL) (by decide) rfl ?_
      refine rs_icmp_ge (t := 30) ri_174_18 rfl rfl (fun h3 => ?_) (fun h3 => ?_)
      · skip
        refine rs_iconst (v := (-1 : Int32)) ri_174_30 rfl (by decide) ?_
        refine rs_iret ri_174_31 rm_174.2.1 (by decide) ?_
        exact ⟨by unfold xf_174; first | (simp only [if_neg h1, if_neg h2, if_pos h3]; done) | rfl, by rfl⟩
      · skip
        refine rs_aload_n ri_174_21 rfl rfl ?_
        refine rs_gf (v := .ref 61) ri_174_22 rfl (by decide) (ro_kf (kd_59 hL)) rfl (rf_59_1 hL) ?_
        refine rs_iload_n ri_174_25 rfl rfl ?_
        refine rs_iald (v := (M.2.1 61 (v1.toNatClampNeg))) ri_174_26 rfl (by decide) (kd_61 hL) (vp_in_iff.mpr ⟨(ro_lo1 h1), (ro_hi2 h3 (by decide))⟩) rfl ?_
        refine rs_goto (t := 31) ri_174_27 rfl ?_
        refine rs_iret ri_174_31 rm_174.2.1 (by decide) ?_
        exact ⟨by unfold xf_174; first | (simp only [if_neg h1, if_neg h2, if_neg h3]; done) | rfl, by rfl⟩
/-- RefusedOnce$Shelf.keepBody(I)V -/
def xm_176 (M : ro_Mm) (c0 : Nat) (v1 : Int32) : ro_Mm := (if (0 : Int32) ≤ v1 then (ro_sI (ro_sI (ro_sI M c0 1 (-1 : Int32)) c0 3 v1) c0 2 (0 : Int32)) else (ro_sI (ro_sI (ro_sI M c0 1 (-2 : Int32)) c0 3 v1) c0 2 (0 : Int32)))
theorem xs_176 {X : ro_Sx} {M : ro_Mm} {c0 : Nat} {v1 : Int32} (hL : ro_lay M) (hc0 : ro_is c0) : ro_cwp X 1 176 [.ref c0, .int v1] M (fun v M2 => v = none ∧ M2 = xm_176 M c0 v1) := by
  refine rs_begin (lv0 := [(0, .ref c0), (1, .int v1)]) (by decide) rfl (by rw [rm_176.1]; exact Nat.le_of_ble_eq_true rfl) rfl ?_
  refine rs_aload_n ri_176_0 rfl rfl ?_
  refine rs_iload_n ri_176_1 rfl rfl ?_
  refine rs_if_ge (t := 10) ri_176_2 rfl rfl (fun h1 => ?_) (fun h1 => ?_)
  · skip
    refine rs_iconst (v := (-1 : Int32)) ri_176_10 rfl (by decide) ?_
    refine rs_pf (M2 := (ro_sI M c0 1 (-1 : Int32))) ri_176_11 rfl (ro_is4 hc0) (ro_kf (is_kd hL hc0)) (fun h => absurd h (by decide)) (fun f h => h) ?_
    refine rs_aload_n ri_176_14 rfl rfl ?_
    refine rs_iload_n ri_176_15 rfl rfl ?_
    refine rs_pf (M2 := (ro_sI (ro_sI M c0 1 (-1 : Int32)) c0 3 v1)) ri_176_16 rfl (ro_is4 hc0) (ro_kf (is_kd hL hc0)) (fun h => absurd h (by decide)) (fun f h => h) ?_
    refine rs_aload_n ri_176_19 rfl rfl ?_
    refine rs_iconst (v := (0 : Int32)) ri_176_20 rfl (by decide) ?_
    refine rs_pf (M2 := (ro_sI (ro_sI (ro_sI M c0 1 (-1 : Int32)) c0 3 v1) c0 2 (0 : Int32))) ri_176_21 rfl (ro_is4 hc0) (ro_kf (is_kd hL hc0)) (fun h => absurd h (by decide)) (fun f h => h) ?_
    refine rs_ret ri_176_24 rm_176.2.1 (by decide) ?_
    exact ⟨by rfl, by unfold xm_176; first | (simp only [if_pos h1]; done) | rfl⟩
  · skip
    refine rs_bipush (v := (-2 : Int32)) ri_176_5 rfl (by decide) ?_
    refine rs_goto (t := 11) ri_176_7 rfl ?_
    refine rs_pf (M2 := (ro_sI M c0 1 (-2 : Int32))) ri_176_11 rfl (ro_is4 hc0) (ro_kf (is_kd hL hc0)) (fun h => absurd h (by decide)) (fun f h => h) ?_
    refine rs_aload_n ri_176_14 rfl rfl ?_
    refine rs_iload_n ri_176_15 rfl rfl ?_
    refine rs_pf (M2 := (ro_sI (ro_sI M c0 1 (-2 : Int32)) c0 3 v1)) ri_176_16 rfl (ro_is4 hc0) (ro_kf (is_kd hL hc0)) (fun h => absurd h (by decide)) (fun f h => h) ?_
    refine rs_aload_n ri_176_19 rfl rfl ?_
    refine rs_iconst (v := (0 : Int32)) ri_176_20 rfl (by decide) ?_
    refine rs_pf (M2 := (ro_sI (ro_sI (ro_sI M c0 1 (-2 : Int32)) c0 3 v1) c0 2 (0 : Int32))) ri_176_21 rfl (ro_is4 hc0) (ro_kf (is_kd hL hc0)) (fun h => absurd h (by decide)) (fun f h => h) ?_
    refine rs_ret ri_176_24 rm_176.2.1 (by decide) ?_
    exact ⟨by rfl, by unfold xm_176; first | (simp only [if_neg h1]; done) | rfl⟩
theorem xl_176 {M : ro_Mm} {c0 : Nat} {v1 : Int32} (hL : ro_lay M) (hc0 : ro_is c0) : ro_lay (xm_176 M c0 v1) := by
  unfold xm_176
  by_cases hz : (0 : Int32) ≤ v1
  · skip
    rw [if_pos hz]
    exact hL
  · skip
    rw [if_neg hz]
    exact hL
theorem xwI_176 {M : ro_Mm} {c0 : Nat} {v1 : Int32} {c j : Nat} (n0 : c ≠ c0) : (xm_176 M c0 v1).2.1 c j = M.2.1 c j := by
  unfold xm_176
  by_cases hz : (0 : Int32) ≤ v1
  · rw [if_pos hz]
    first | done | exact ((((ro_sI_ne n0)).trans (ro_sI_ne n0)).trans (ro_sI_ne n0))
  · rw [if_neg hz]
    first | done | exact ((((ro_sI_ne n0)).trans (ro_sI_ne n0)).trans (ro_sI_ne n0))
theorem xwJ_176 {M : ro_Mm} {c0 : Nat} {v1 : Int32} {c j : Nat} : (xm_176 M c0 v1).2.2.1 c j = M.2.2.1 c j := by
  unfold xm_176
  by_cases hz : (0 : Int32) ≤ v1
  · rw [if_pos hz]
    first | done | exact rfl
  · rw [if_neg hz]
    first | done | exact rfl
/-- RefusedOnce$Shelf.holdsRow()Z -/
def xf_180 (M : ro_Mm) (c0 : Nat) : Bool := (if (M.2.1 c0 1) < (0 : Int32) then false else true)
theorem xs_180 {X : ro_Sx} {M : ro_Mm} {c0 : Nat} (hL : ro_lay M) (hc0 : ro_is c0) : ro_cwp X 1 180 [.ref c0] M (fun v M2 => v = some (.int (ro_b (xf_180 M c0))) ∧ M2 = M) := by
  refine rs_begin (lv0 := [(0, .ref c0)]) (by decide) rfl (by rw [rm_180.1]; exact Nat.le_of_ble_eq_true rfl) rfl ?_
  refine rs_aload_n ri_180_0 rfl rfl ?_
  refine rs_gf (v := .int (M.2.1 c0 1)) ri_180_1 rfl (ro_is4 hc0) (ro_kf (is_kd hL hc0)) rfl rfl ?_
  refine rs_if_lt (t := 11) ri_180_4 rfl rfl (fun h1 => ?_) (fun h1 => ?_)
  · skip
    refine rs_iconst (v := (0 : Int32)) ri_180_11 rfl (by decide) ?_
    refine rs_zret (p := false) ri_180_12 rm_180.2.1 (by decide) rfl ?_
    exact ⟨by unfold xf_180; first | (simp only [if_pos h1]; done) | rfl, by rfl⟩
  · skip
    refine rs_iconst (v := (1 : Int32)) ri_180_7 rfl (by decide) ?_
    refine rs_goto (t := 12) ri_180_8 rfl ?_
    refine rs_zret (p := true) ri_180_12 rm_180.2.1 (by decide) rfl ?_
    exact ⟨by unfold xf_180; first | (simp only [if_neg h1]; done) | rfl, by rfl⟩
/-- RefusedOnce$Shelf.lowest(J)J -/
def xf_182 (M : ro_Mm) (c0 : Nat) (v1 : Int64) : Int64 := (if (M.2.1 c0 1) = (0 : Int32) then (((v1.toInt32).toInt8.toInt32).toInt64) else (if (M.2.1 c0 1) = (1 : Int32) then (((v1.toInt32).toInt16.toInt32).toInt64) else (if (M.2.1 c0 1) = (2 : Int32) then ((v1.toInt32).toInt64) else (if (M.2.1 c0 1) = (3 : Int32) then v1 else (if (lg_cmp v1 (0 : Int64)) = (0 : Int32) then (0 : Int64) else (1 : Int64))))))
theorem xs_182 {X : ro_Sx} {M : ro_Mm} {c0 : Nat} {v1 : Int64} (hL : ro_lay M) (hc0 : ro_is c0) : ro_cwp X 1 182 [.ref c0, .long v1] M (fun v M2 => v = some (.long (xf_182 M c0 v1)) ∧ M2 = M) := by
  refine rs_begin (lv0 := [(0, .ref c0), (1, .long v1)]) (by decide) rfl (by rw [rm_182.1]; exact Nat.le_of_ble_eq_true rfl) rfl ?_
  refine rs_aload_n ri_182_0 rfl rfl ?_
  refine rs_gf (v := .int (M.2.1 c0 1)) ri_182_1 rfl (ro_is4 hc0) (ro_kf (is_kd hL hc0)) rfl rfl ?_
  by_cases h1 : (M.2.1 c0 1) = (0 : Int32)
  · skip
    refine rs_swIn (o := 32) (t := 36) ri_182_4 (by rw [h1]; first | done | decide) (by rw [h1]; first | done | decide) (by rw [h1]; first | done | rfl) rfl ?_
    refine rs_lload_n ri_182_36 rfl rfl ?_
    refine rs_l2i (r := (v1.toInt32)) ri_182_37 rfl rfl ?_
    refine rs_i2b (r := ((v1.toInt32).toInt8.toInt32)) ri_182_38 rfl rfl ?_
    refine rs_i2l (r := (((v1.toInt32).toInt8.toInt32).toInt64)) ri_182_39 rfl rfl ?_
    refine rs_lret ri_182_40 rm_182.2.1 (by decide) ?_
    exact ⟨by unfold xf_182; first | (simp only [if_pos h1]; done) | rfl, by rfl⟩
  · skip
    by_cases h2 : (M.2.1 c0 1) = (1 : Int32)
    · skip
      refine rs_swIn (o := 37) (t := 41) ri_182_4 (by rw [h2]; first | done | decide) (by rw [h2]; first | done | decide) (by rw [h2]; first | done | rfl) rfl ?_
      refine rs_lload_n ri_182_41 rfl rfl ?_
      refine rs_l2i (r := (v1.toInt32)) ri_182_42 rfl rfl ?_
      refine rs_i2s (r := ((v1.toInt32).toInt16.toInt32)) ri_182_43 rfl rfl ?_
      refine rs_i2l (r := (((v1.toInt32).toInt16.toInt32).toInt64)) ri_182_44 rfl rfl ?_
      refine rs_lret ri_182_45 rm_182.2.1 (by decide) ?_
      exact ⟨by unfold xf_182; first | (simp only [if_neg h1, if_pos h2]; done) | rfl, by rfl⟩
    · skip
      by_cases h3 : (M.2.1 c0 1) = (2 : Int32)
      · skip
        refine rs_swIn (o := 42) (t := 46) ri_182_4 (by rw [h3]; first | done | decide) (by rw [h3]; first | done | decide) (by rw [h3]; first | done | rfl) rfl ?_
        refine rs_lload_n ri_182_46 rfl rfl ?_
        refine rs_l2i (r := (v1.toInt32)) ri_182_47 rfl rfl ?_
        refine rs_i2l (r := ((v1.toInt32).toInt64)) ri_182_48 rfl rfl ?_
        refine rs_lret ri_182_49 rm_182.2.1 (by decide) ?_
        exact ⟨by unfold xf_182; first | (simp only [if_neg h1, if_neg h2, if_pos h3]; done) | rfl, by rfl⟩
      · skip
        by_cases h4 : (M.2.1 c0 1) = (3 : Int32)
        · skip
          refine rs_swIn (o := 46) (t := 50) ri_182_4 (by rw [h4]; first | done | decide) (by rw [h4]; first | done | decide) (by rw [h4]; first | done | rfl) rfl ?_
          refine rs_lload_n ri_182_50 rfl rfl ?_
          refine rs_lret ri_182_51 rm_182.2.1 (by decide) ?_
          exact ⟨by unfold xf_182; first | (simp only [if_neg h1, if_neg h2, if_neg h3, if_pos h4]; done) | rfl, by rfl⟩
        · skip
          refine rs_swOut (t := 52) ri_182_4 (by have g0 := ro_ne_i (z := 0) h1 rfl; have g1 := ro_ne_i (z := 1) h2 rfl; have g2 := ro_ne_i (z := 2) h3 rfl; have g3 := ro_ne_i (z := 3) h4 rfl; omega) rfl ?_
          refine rs_lload_n ri_182_52 rfl rfl ?_
          refine rs_lconst (v := (0 : Int64)) ri_182_53 rfl rfl ?_
          refine rs_lcmp (r := (lg_cmp v1 (0 : Int64))) ri_182_54 rfl rfl ?_
          refine rs_if_eq (t := 62) ri_182_55 rfl rfl (fun h5 => ?_) (fun h5 => ?_)
          · skip
            refine rs_lconst (v := (0 : Int64)) ri_182_62 rfl rfl ?_
            refine rs_lret ri_182_63 rm_182.2.1 (by decide) ?_
            exact ⟨by unfold xf_182; first | (simp only [if_neg h1, if_neg h2, if_neg h3, if_neg h4, if_pos h5]; done) | rfl, by rfl⟩
          · skip
            refine rs_lconst (v := (1 : Int64)) ri_182_58 rfl rfl ?_
            refine rs_goto (t := 63) ri_182_59 rfl ?_
            refine rs_lret ri_182_63 rm_182.2.1 (by decide) ?_
            exact ⟨by unfold xf_182; first | (simp only [if_neg h1, if_neg h2, if_neg h3, if_neg h4, if_neg h5]; done) | rfl, by rfl⟩
/-- RefusedOnce.element(II)J -/
def xf_183 (M : ro_Mm) (v1 : Int32) (v2 : Int32) : Int64 := (if ro_bs v1 then (if (xf_180 M (ro_sc v1)) then (if (xf_13 M v2 (0 : Int32) ((xf_24 M (ro_sc v1)) - (1 : Int32))) then (xf_26 M (ro_sc v1) v2) else (-9223372036854775808 : Int64)) else (-9223372036854775808 : Int64)) else (-9223372036854775808 : Int64))
theorem xs_183 {X : ro_Sx} {M : ro_Mm} {v1 : Int32} {v2 : Int32} (hL : ro_lay M) : ro_cwp X 2 183 [.ref 4, .int v1, .int v2] M (fun v M2 => v = some (.long (xf_183 M v1 v2)) ∧ M2 = M) := by
  refine rs_begin (lv0 := [(0, .ref 4), (1, .int v1), (2, .int v2)]) (by decide) rfl (by rw [rm_183.1]; exact Nat.le_of_ble_eq_true rfl) rfl ?_
  refine rs_aload_n ri_183_0 rfl rfl ?_
  refine rs_iload_n ri_183_1 rfl rfl ?_
  by_cases h1 : ro_bs v1 = true
  · skip
    refine rs_virt (As := [.int v1]) (r := []) ri_183_2 rfl (by decide) rm_20.2.2.2 rm_20.2.2.1 rfl rfl rfl (by decide) (ro_kf (kd_4 hL)) (Nat.le_of_ble_eq_true rfl) (by decide) (by decide) (xs_20_t hL h1) ?_
    rintro _ _ ⟨e1, e2⟩
    rw [e1, e2]
    show ro_w X _ 183 _ 5 [(0, .ref 4), (1, .int v1), (2, .int v2)] [.ref (ro_sc v1)] M (0, 0)
    refine rs_astore_n (lv2 := [(3, .ref (ro_sc v1)), (0, .ref 4), (1, .int v1), (2, .int v2)]) ri_183_5 rfl rm_183.1 (by decide) rfl ?_
    refine rs_aload_n ri_183_6 rfl rfl ?_
    refine rs_ifnull (t := 35) ri_183_7 rfl rfl ?_
    refine rs_aload_n ri_183_10 rfl rfl ?_
    refine rs_virt (As := []) (r := []) ri_183_11 rfl (by decide) rm_180.2.2.2 rm_180.2.2.1 rfl rfl rfl (ro_is4 (ro_sc_is v1)) (ro_kf (is_kd hL (ro_sc_is v1))) (Nat.le_of_ble_eq_true rfl) (by decide) (by decide) (xs_180 (X := X) hL (ro_sc_is v1)) ?_
    rintro _ _ ⟨e1, e2⟩
    rw [e1, e2]
    show ro_w X _ 183 _ 14 [(3, .ref (ro_sc v1)), (0, .ref 4), (1, .int v1), (2, .int v2)] [.int (ro_b (xf_180 M (ro_sc v1)))] M (0, 0)
    refine rs_ifeq_c (t := 35) ri_183_14 rfl rfl (fun h2 => ?_) (fun h2 => ?_)
    · skip
      refine rs_iconst (v := (0 : Int32)) ri_183_35 rfl (by decide) ?_
      refine rs_istore (lv2 := [(4, .int (0 : Int32)), (3, .ref (ro_sc v1)), (0, .ref 4), (1, .int v1), (2, .int v2)]) ri_183_36 rfl rm_183.1 (by decide) rfl ?_
      refine rs_iload ri_183_38 rfl rfl ?_
      refine rs_if_eq (t := 51) ri_183_40 rfl rfl (fun h3 => ?_) (fun h3 => absurd (by decide) h3)
      refine rs_ldc2 (v := (-9223372036854775808 : Int64)) ri_183_51 rfl rfl rfl ?_
      refine rs_lret ri_183_54 rm_183.2.1 (by decide) ?_
      exact ⟨by unfold xf_183; first | (simp only [if_pos h1, if_neg h2]; done) | rfl, by rfl⟩
    · skip
      refine rs_iload_n ri_183_17 rfl rfl ?_
      refine rs_iconst (v := (0 : Int32)) ri_183_18 rfl (by decide) ?_
      refine rs_aload_n ri_183_19 rfl rfl ?_
      refine rs_virt (As := []) (r := [.int (0 : Int32), .int v2]) ri_183_20 rfl (by decide) rm_24.2.2.2 rm_24.2.2.1 rfl rfl rfl (ro_is4 (ro_sc_is v1)) (ro_kf (is_kd hL (ro_sc_is v1))) (Nat.le_of_ble_eq_true rfl) (by decide) (by decide) (xs_24 (X := X) hL (ro_sc_is v1)) ?_
      rintro _ _ ⟨e1, e2⟩
      rw [e1, e2]
      show ro_w X _ 183 _ 23 [(3, .ref (ro_sc v1)), (0, .ref 4), (1, .int v1), (2, .int v2)] [.int (xf_24 M (ro_sc v1)), .int (0 : Int32), .int v2] M (0, 0)
      refine rs_iconst (v := (1 : Int32)) ri_183_23 rfl (by decide) ?_
      refine rs_isub (r := ((xf_24 M (ro_sc v1)) - (1 : Int32))) ri_183_24 rfl rfl ?_
      refine rs_stat (As := [.int v2, .int (0 : Int32), .int ((xf_24 M (ro_sc v1)) - (1 : Int32))]) (r := []) ri_183_25 rfl rm_13.2.2.2 rfl rfl rfl (Nat.le_of_ble_eq_true rfl) (by decide) (by decide) (xs_13 (X := X) hL) ?_
      rintro _ _ ⟨e1, e2⟩
      rw [e1, e2]
      show ro_w X _ 183 _ 28 [(3, .ref (ro_sc v1)), (0, .ref 4), (1, .int v1), (2, .int v2)] [.int (ro_b (xf_13 M v2 (0 : Int32) ((xf_24 M (ro_sc v1)) - (1 : Int32))))] M (0, 0)
      refine rs_ifeq_c (t := 35) ri_183_28 rfl rfl (fun h4 => ?_) (fun h4 => ?_)
      · skip
        refine rs_iconst (v := (0 : Int32)) ri_183_35 rfl (by decide) ?_
        refine rs_istore (lv2 := [(4, .int (0 : Int32)), (3, .ref (ro_sc v1)), (0, .ref 4), (1, .int v1), (2, .int v2)]) ri_183_36 rfl rm_183.1 (by decide) rfl ?_
        refine rs_iload ri_183_38 rfl rfl ?_
        refine rs_if_eq (t := 51) ri_183_40 rfl rfl (fun h5 => ?_) (fun h5 => absurd (by decide) h5)
        refine rs_ldc2 (v := (-9223372036854775808 : Int64)) ri_183_51 rfl rfl rfl ?_
        refine rs_lret ri_183_54 rm_183.2.1 (by decide) ?_
        exact ⟨by unfold xf_183; first | (simp only [if_pos h1, if_pos h2, if_neg h4]; done) | rfl, by rfl⟩
      · skip
        refine rs_iconst (v := (1 : Int32)) ri_183_31 rfl (by decide) ?_
        refine rs_goto (t := 36) ri_183_32 rfl ?_
        refine rs_istore (lv2 := [(4, .int (1 : Int32)), (3, .ref (ro_sc v1)), (0, .ref 4), (1, .int v1), (2, .int v2)]) ri_183_36 rfl rm_183.1 (by decide) rfl ?_
        refine rs_iload ri_183_38 rfl rfl ?_
        refine rs_if_eq (t := 51) ri_183_40 rfl rfl (fun h6 => absurd h6 (by decide)) (fun h6 => ?_)
        refine rs_aload_n ri_183_43 rfl rfl ?_
        refine rs_iload_n ri_183_44 rfl rfl ?_
        refine rs_virt (As := [.int v2]) (r := []) ri_183_45 rfl (by decide) rm_26.2.2.2 rm_26.2.2.1 rfl rfl rfl (ro_is4 (ro_sc_is v1)) (ro_kf (is_kd hL (ro_sc_is v1))) (Nat.le_of_ble_eq_true rfl) (by decide) (by decide) (xs_26 (X := X) hL (ro_sc_is v1)) ?_
        rintro _ _ ⟨e1, e2⟩
        rw [e1, e2]
        show ro_w X _ 183 _ 48 [(4, .int (1 : Int32)), (3, .ref (ro_sc v1)), (0, .ref 4), (1, .int v1), (2, .int v2)] [.long (xf_26 M (ro_sc v1) v2)] M (0, 0)
        refine rs_goto (t := 54) ri_183_48 rfl ?_
        refine rs_lret ri_183_54 rm_183.2.1 (by decide) ?_
        exact ⟨by unfold xf_183; first | (simp only [if_pos h1, if_pos h2, if_pos h4]; done) | rfl, by rfl⟩
  · skip
    refine rs_virt (As := [.int v1]) (r := []) ri_183_2 rfl (by decide) rm_20.2.2.2 rm_20.2.2.1 rfl rfl rfl (by decide) (ro_kf (kd_4 hL)) (Nat.le_of_ble_eq_true rfl) (by decide) (by decide) (xs_20_f hL h1) ?_
    rintro _ _ ⟨e1, e2⟩
    rw [e1, e2]
    show ro_w X _ 183 _ 5 [(0, .ref 4), (1, .int v1), (2, .int v2)] [.null] M (0, 0)
    refine rs_astoreN_n (lv2 := [(3, .null), (0, .ref 4), (1, .int v1), (2, .int v2)]) ri_183_5 rfl rm_183.1 (by decide) rfl ?_
    refine rs_aloadN_n ri_183_6 rfl rfl ?_
    refine rs_ifnullN (t := 35) ri_183_7 rfl ?_
    refine rs_iconst (v := (0 : Int32)) ri_183_35 rfl (by decide) ?_
    refine rs_istore (lv2 := [(4, .int (0 : Int32)), (3, .null), (0, .ref 4), (1, .int v1), (2, .int v2)]) ri_183_36 rfl rm_183.1 (by decide) rfl ?_
    refine rs_iload ri_183_38 rfl rfl ?_
    refine rs_if_eq (t := 51) ri_183_40 rfl rfl (fun h7 => ?_) (fun h7 => absurd (by decide) h7)
    refine rs_ldc2 (v := (-9223372036854775808 : Int64)) ri_183_51 rfl rfl rfl ?_
    refine rs_lret ri_183_54 rm_183.2.1 (by decide) ?_
    exact ⟨by unfold xf_183; first | (simp only [if_neg h1]; done) | rfl, by rfl⟩
/-- RefusedOnce$Shelf.isLike(LRefusedOnce$Shelf;)Z -/
def xf_185 (M : ro_Mm) (c0 : Nat) (c1 : Nat) : Bool := (if (xf_180 M c0) then (if (M.2.1 c0 1) = (M.2.1 c1 1) then true else false) else false)
theorem xs_185 {X : ro_Sx} {M : ro_Mm} {c0 : Nat} {c1 : Nat} (hL : ro_lay M) (hc0 : ro_is c0) (hc1 : ro_is c1) : ro_cwp X 2 185 [.ref c0, .ref c1] M (fun v M2 => v = some (.int (ro_b (xf_185 M c0 c1))) ∧ M2 = M) := by
  refine rs_begin (lv0 := [(0, .ref c0), (1, .ref c1)]) (by decide) rfl (by rw [rm_185.1]; exact Nat.le_of_ble_eq_true rfl) rfl ?_
  refine rs_aload_n ri_185_0 rfl rfl ?_
  refine rs_virt (As := []) (r := []) ri_185_1 rfl (by decide) rm_180.2.2.2 rm_180.2.2.1 rfl rfl rfl (ro_is4 hc0) (ro_kf (is_kd hL hc0)) (Nat.le_of_ble_eq_true rfl) (by decide) (by decide) (xs_180 (X := X) hL hc0) ?_
  rintro _ _ ⟨e1, e2⟩
  rw [e1, e2]
  show ro_w X _ 185 _ 4 [(0, .ref c0), (1, .ref c1)] [.int (ro_b (xf_180 M c0))] M (0, 0)
  refine rs_ifeq_c (t := 22) ri_185_4 rfl rfl (fun h1 => ?_) (fun h1 => ?_)
  · skip
    refine rs_iconst (v := (0 : Int32)) ri_185_22 rfl (by decide) ?_
    refine rs_zret (p := false) ri_185_23 rm_185.2.1 (by decide) rfl ?_
    exact ⟨by unfold xf_185; first | (simp only [if_neg h1]; done) | rfl, by rfl⟩
  · skip
    refine rs_aload_n ri_185_7 rfl rfl ?_
    refine rs_gf (v := .int (M.2.1 c0 1)) ri_185_8 rfl (ro_is4 hc0) (ro_kf (is_kd hL hc0)) rfl rfl ?_
    refine rs_aload_n ri_185_11 rfl rfl ?_
    refine rs_gf (v := .int (M.2.1 c1 1)) ri_185_12 rfl (ro_is4 hc1) (ro_kf (is_kd hL hc1)) rfl rfl ?_
    refine rs_icmp_ne (t := 22) ri_185_15 rfl rfl (fun h2 => ?_) (fun h2 => ?_)
    · skip
      refine rs_iconst (v := (0 : Int32)) ri_185_22 rfl (by decide) ?_
      refine rs_zret (p := false) ri_185_23 rm_185.2.1 (by decide) rfl ?_
      exact ⟨by unfold xf_185; first | (simp only [if_pos h1, if_neg h2]; done) | rfl, by rfl⟩
    · skip
      refine rs_iconst (v := (1 : Int32)) ri_185_18 rfl (by decide) ?_
      refine rs_goto (t := 23) ri_185_19 rfl ?_
      refine rs_zret (p := true) ri_185_23 rm_185.2.1 (by decide) rfl ?_
      exact ⟨by unfold xf_185; first | (simp only [if_pos h1, if_pos h2]; done) | rfl, by rfl⟩
/-- RefusedOnce$Shelf.bodyKept()I -/
def xf_188 (M : ro_Mm) (c0 : Nat) : Int32 := (M.2.1 c0 3)
theorem xs_188 {X : ro_Sx} {M : ro_Mm} {c0 : Nat} (hL : ro_lay M) (hc0 : ro_is c0) : ro_cwp X 1 188 [.ref c0] M (fun v M2 => v = some (.int (xf_188 M c0)) ∧ M2 = M) := by
  refine rs_begin (lv0 := [(0, .ref c0)]) (by decide) rfl (by rw [rm_188.1]; exact Nat.le_of_ble_eq_true rfl) rfl ?_
  refine rs_aload_n ri_188_0 rfl rfl ?_
  refine rs_gf (v := .int (M.2.1 c0 3)) ri_188_1 rfl (ro_is4 hc0) (ro_kf (is_kd hL hc0)) rfl rfl ?_
  refine rs_iret ri_188_4 rm_188.2.1 (by decide) ?_
  exact ⟨by rfl, by rfl⟩
/-- RefusedOnce$Bodies.ranLately()I -/
def xf_192 (M : ro_Mm) : Int32 := (M.2.1 59 3)
theorem xs_192 {X : ro_Sx} {M : ro_Mm} (hL : ro_lay M) : ro_cwp X 1 192 [.ref 59] M (fun v M2 => v = some (.int (xf_192 M)) ∧ M2 = M) := by
  refine rs_begin (lv0 := [(0, .ref 59)]) (by decide) rfl (by rw [rm_192.1]; exact Nat.le_of_ble_eq_true rfl) rfl ?_
  refine rs_aload_n ri_192_0 rfl rfl ?_
  refine rs_gf (v := .int (M.2.1 59 3)) ri_192_1 rfl (by decide) (ro_kf (kd_59 hL)) rfl rfl ?_
  refine rs_iret ri_192_4 rm_192.2.1 (by decide) ?_
  exact ⟨by rfl, by rfl⟩
/-- RefusedOnceModel.in(III)Z -/
def xf_195 (M : ro_Mm) (v0 : Int32) (v1 : Int32) (v2 : Int32) : Bool := (if v0 < v1 then false else (if v2 < v0 then false else true))
theorem xs_195 {X : ro_Sx} {M : ro_Mm} {v0 : Int32} {v1 : Int32} {v2 : Int32} (hL : ro_lay M) : ro_cwp X 1 195 [.int v0, .int v1, .int v2] M (fun v M2 => v = some (.int (ro_b (xf_195 M v0 v1 v2))) ∧ M2 = M) := by
  refine rs_begin (lv0 := [(0, .int v0), (1, .int v1), (2, .int v2)]) (by decide) rfl (by rw [rm_195.1]; exact Nat.le_of_ble_eq_true rfl) rfl ?_
  refine rs_iload_n ri_195_0 rfl rfl ?_
  refine rs_iload_n ri_195_1 rfl rfl ?_
  refine rs_icmp_lt (t := 14) ri_195_2 rfl rfl (fun h1 => ?_) (fun h1 => ?_)
  · skip
    refine rs_iconst (v := (0 : Int32)) ri_195_14 rfl (by decide) ?_
    refine rs_zret (p := false) ri_195_15 rm_195.2.1 (by decide) rfl ?_
    exact ⟨by unfold xf_195; first | (simp only [if_pos h1]; done) | rfl, by rfl⟩
  · skip
    refine rs_iload_n ri_195_5 rfl rfl ?_
    refine rs_iload_n ri_195_6 rfl rfl ?_
    refine rs_icmp_gt (t := 14) ri_195_7 rfl rfl (fun h2 => ?_) (fun h2 => ?_)
    · skip
      refine rs_iconst (v := (0 : Int32)) ri_195_14 rfl (by decide) ?_
      refine rs_zret (p := false) ri_195_15 rm_195.2.1 (by decide) rfl ?_
      exact ⟨by unfold xf_195; first | (simp only [if_neg h1, if_pos h2]; done) | rfl, by rfl⟩
    · skip
      refine rs_iconst (v := (1 : Int32)) ri_195_10 rfl (by decide) ?_
      refine rs_goto (t := 15) ri_195_11 rfl ?_
      refine rs_zret (p := true) ri_195_15 rm_195.2.1 (by decide) rfl ?_
      exact ⟨by unfold xf_195; first | (simp only [if_neg h1, if_neg h2]; done) | rfl, by rfl⟩
/-- RefusedOnceModel.addOne(III)I -/
def xf_196 (M : ro_Mm) (v1 : Int32) (v2 : Int32) (v3 : Int32) : Int32 := (((M.2.1 163 1) + (1 : Int32)) - (1 : Int32))
def xm_196 (M : ro_Mm) (v1 : Int32) (v2 : Int32) (v3 : Int32) : ro_Mm := (ro_sI (ro_sI (ro_sI (ro_sI (ro_sI M 164 ((M.2.1 163 1).toNatClampNeg) v1) 165 ((M.2.1 163 1).toNatClampNeg) v2) 166 ((M.2.1 163 1).toNatClampNeg) v3) 167 ((M.2.1 163 1).toNatClampNeg) (0 : Int32)) 163 1 ((M.2.1 163 1) + (1 : Int32)))
def xp_196 (M : ro_Mm) (v1 : Int32) (v2 : Int32) (v3 : Int32) : Prop := (vp_in (M.2.1 163 1) 6 ∧ (vp_in (M.2.1 163 1) 6 ∧ (vp_in (M.2.1 163 1) 6 ∧ (vp_in (M.2.1 163 1) 6 ∧ True))))
theorem xs_196 {X : ro_Sx} {M : ro_Mm} {v1 : Int32} {v2 : Int32} {v3 : Int32} (hL : ro_lay M) (hp : xp_196 M v1 v2 v3) : ro_cwp X 1 196 [.ref 163, .int v1, .int v2, .int v3] M (fun v M2 => v = some (.int (xf_196 M v1 v2 v3)) ∧ M2 = xm_196 M v1 v2 v3) := by
  refine rs_begin (lv0 := [(0, .ref 163), (1, .int v1), (2, .int v2), (3, .int v3)]) (by decide) rfl (by rw [rm_196.1]; exact Nat.le_of_ble_eq_true rfl) rfl ?_
  unfold xp_196 at hp
  refine rs_aload_n ri_196_0 rfl rfl ?_
  refine rs_gf (v := .ref 164) ri_196_1 rfl (by decide) (ro_kf (kd_163 hL)) rfl (rf_163_2 hL) ?_
  refine rs_aload_n ri_196_4 rfl rfl ?_
  refine rs_gf (v := .int (M.2.1 163 1)) ri_196_5 rfl (by decide) (ro_kf (kd_163 hL)) rfl rfl ?_
  refine rs_iload_n ri_196_8 rfl rfl ?_
  obtain ⟨q0, hp⟩ := hp
  refine rs_iast (j := (M.2.1 163 1).toNatClampNeg) ri_196_9 rfl (by decide) (kd_164 hL) q0 rfl ?_
  refine rs_aload_n ri_196_10 rfl rfl ?_
  refine rs_gf (v := .ref 165) ri_196_11 rfl (by decide) (ro_kf (kd_163 hL)) rfl (rf_163_3 hL) ?_
  refine rs_aload_n ri_196_14 rfl rfl ?_
  refine rs_gf (v := .int (M.2.1 163 1)) ri_196_15 rfl (by decide) (ro_kf (kd_163 hL)) rfl rfl ?_
  refine rs_iload_n ri_196_18 rfl rfl ?_
  obtain ⟨q1, hp⟩ := hp
  refine rs_iast (j := (M.2.1 163 1).toNatClampNeg) ri_196_19 rfl (by decide) (kd_165 hL) q1 rfl ?_
  refine rs_aload_n ri_196_20 rfl rfl ?_
  refine rs_gf (v := .ref 166) ri_196_21 rfl (by decide) (ro_kf (kd_163 hL)) rfl (rf_163_4 hL) ?_
  refine rs_aload_n ri_196_24 rfl rfl ?_
  refine rs_gf (v := .int (M.2.1 163 1)) ri_196_25 rfl (by decide) (ro_kf (kd_163 hL)) rfl rfl ?_
  refine rs_iload_n ri_196_28 rfl rfl ?_
  obtain ⟨q2, hp⟩ := hp
  refine rs_iast (j := (M.2.1 163 1).toNatClampNeg) ri_196_29 rfl (by decide) (kd_166 hL) q2 rfl ?_
  refine rs_aload_n ri_196_30 rfl rfl ?_
  refine rs_gf (v := .ref 167) ri_196_31 rfl (by decide) (ro_kf (kd_163 hL)) rfl (rf_163_5 hL) ?_
  refine rs_aload_n ri_196_34 rfl rfl ?_
  refine rs_gf (v := .int (M.2.1 163 1)) ri_196_35 rfl (by decide) (ro_kf (kd_163 hL)) rfl rfl ?_
  refine rs_iconst (v := (0 : Int32)) ri_196_38 rfl (by decide) ?_
  obtain ⟨q3, hp⟩ := hp
  refine rs_iast (j := (M.2.1 163 1).toNatClampNeg) ri_196_39 rfl (by decide) (kd_167 hL) q3 rfl ?_
  refine rs_aload_n ri_196_40 rfl rfl ?_
  refine rs_dup ri_196_41 rfl rfl ?_
  refine rs_gf (v := .int (M.2.1 163 1)) ri_196_42 rfl (by decide) (ro_kf (kd_163 hL)) rfl rfl ?_
  refine rs_iconst (v := (1 : Int32)) ri_196_45 rfl (by decide) ?_
  refine rs_iadd (r := ((M.2.1 163 1) + (1 : Int32))) ri_196_46 rfl rfl ?_
  refine rs_pf (M2 := (ro_sI (ro_sI (ro_sI (ro_sI (ro_sI M 164 ((M.2.1 163 1).toNatClampNeg) v1) 165 ((M.2.1 163 1).toNatClampNeg) v2) 166 ((M.2.1 163 1).toNatClampNeg) v3) 167 ((M.2.1 163 1).toNatClampNeg) (0 : Int32)) 163 1 ((M.2.1 163 1) + (1 : Int32)))) ri_196_47 rfl (by decide) (ro_kf (kd_163 hL)) (fun h => absurd h (by decide)) (fun f h => h) ?_
  refine rs_aload_n ri_196_50 rfl rfl ?_
  refine rs_gf (v := .int ((M.2.1 163 1) + (1 : Int32))) ri_196_51 rfl (by decide) (ro_kf (kd_163 hL)) rfl rfl ?_
  refine rs_iconst (v := (1 : Int32)) ri_196_54 rfl (by decide) ?_
  refine rs_isub (r := (((M.2.1 163 1) + (1 : Int32)) - (1 : Int32))) ri_196_55 rfl rfl ?_
  refine rs_iret ri_196_56 rm_196.2.1 (by decide) ?_
  exact ⟨by rfl, by rfl⟩
theorem xl_196 {M : ro_Mm} {v1 : Int32} {v2 : Int32} {v3 : Int32} (hL : ro_lay M) (hp : xp_196 M v1 v2 v3) : ro_lay (xm_196 M v1 v2 v3) := by
  unfold xp_196 at hp
  unfold xm_196
  obtain ⟨q0, hp⟩ := hp
  obtain ⟨q1, hp⟩ := hp
  obtain ⟨q2, hp⟩ := hp
  obtain ⟨q3, hp⟩ := hp
  exact hL
theorem xwI_196 {M : ro_Mm} {v1 : Int32} {v2 : Int32} {v3 : Int32} {c j : Nat} (n0 : c ≠ 164) (n1 : c ≠ 165) (n2 : c ≠ 166) (n3 : c ≠ 167) (n4 : c ≠ 163) : (xm_196 M v1 v2 v3).2.1 c j = M.2.1 c j := by
  unfold xm_196
  first | done | exact ((((((ro_sI_ne n4)).trans (ro_sI_ne n3)).trans (ro_sI_ne n2)).trans (ro_sI_ne n1)).trans (ro_sI_ne n0))
theorem xwJ_196 {M : ro_Mm} {v1 : Int32} {v2 : Int32} {v3 : Int32} {c j : Nat} : (xm_196 M v1 v2 v3).2.2.1 c j = M.2.2.1 c j := by
  unfold xm_196
  first | done | exact rfl
/-- RefusedOnceModel.isShelf(I)Z -/
def xf_198 (M : ro_Mm) (v0 : Int32) : Bool := (xf_195 M v0 (0 : Int32) (5 : Int32))
theorem xs_198 {X : ro_Sx} {M : ro_Mm} {v0 : Int32} (hL : ro_lay M) : ro_cwp X 2 198 [.int v0] M (fun v M2 => v = some (.int (ro_b (xf_198 M v0))) ∧ M2 = M) := by
  refine rs_begin (lv0 := [(0, .int v0)]) (by decide) rfl (by rw [rm_198.1]; exact Nat.le_of_ble_eq_true rfl) rfl ?_
  refine rs_iload_n ri_198_0 rfl rfl ?_
  refine rs_iconst (v := (0 : Int32)) ri_198_1 rfl (by decide) ?_
  refine rs_iconst (v := (5 : Int32)) ri_198_2 rfl (by decide) ?_
  refine rs_stat (As := [.int v0, .int (0 : Int32), .int (5 : Int32)]) (r := []) ri_198_3 rfl rm_195.2.2.2 rfl rfl rfl (Nat.le_of_ble_eq_true rfl) (by decide) (by decide) (xs_195 (X := X) hL) ?_
  rintro _ _ ⟨e1, e2⟩
  rw [e1, e2]
  show ro_w X _ 198 _ 6 [(0, .int v0)] [.int (ro_b (xf_195 M v0 (0 : Int32) (5 : Int32)))] M (0, 0)
  refine rs_zret (p := (xf_195 M v0 (0 : Int32) (5 : Int32))) ri_198_6 rm_198.2.1 (by decide) rfl ?_
  exact ⟨by rfl, by rfl⟩
/-- RefusedOnceModel.lays(III)V -/
def xm_200 (M : ro_Mm) (v1 : Int32) (v2 : Int32) (v3 : Int32) : ro_Mm := (if v1 = (0 : Int32) then (ro_sI M 164 (v2.toNatClampNeg) v3) else (if v1 = (1 : Int32) then (ro_sI M 165 (v2.toNatClampNeg) v3) else (if v1 = (2 : Int32) then (ro_sI M 166 (v2.toNatClampNeg) v3) else (if v1 = (3 : Int32) then (ro_sI M 167 (v2.toNatClampNeg) v3) else (ro_sI M 168 ((v1 - (4 : Int32)).toNatClampNeg) v3)))))
def xp_200 (M : ro_Mm) (v1 : Int32) (v2 : Int32) (v3 : Int32) : Prop := ((v1 = (0 : Int32) → (vp_in v2 6 ∧ True)) ∧ (¬ (v1 = (0 : Int32)) → ((v1 = (1 : Int32) → (vp_in v2 6 ∧ True)) ∧ (¬ (v1 = (1 : Int32)) → ((v1 = (2 : Int32) → (vp_in v2 6 ∧ True)) ∧ (¬ (v1 = (2 : Int32)) → ((v1 = (3 : Int32) → (vp_in v2 6 ∧ True)) ∧ (¬ (v1 = (3 : Int32)) → (vp_in (v1 - (4 : Int32)) 3 ∧ True)))))))))
theorem xs_200 {X : ro_Sx} {M : ro_Mm} {v1 : Int32} {v2 : Int32} {v3 : Int32} (hL : ro_lay M) (hp : xp_200 M v1 v2 v3) : ro_cwp X 1 200 [.ref 163, .int v1, .int v2, .int v3] M (fun v M2 => v = none ∧ M2 = xm_200 M v1 v2 v3) := by
  refine rs_begin (lv0 := [(0, .ref 163), (1, .int v1), (2, .int v2), (3, .int v3)]) (by decide) rfl (by rw [rm_200.1]; exact Nat.le_of_ble_eq_true rfl) rfl ?_
  unfold xp_200 at hp
  refine rs_iload_n ri_200_0 rfl rfl ?_
  by_cases h1 : v1 = (0 : Int32)
  · have hp := hp.1 h1
    refine rs_swIn (o := 31) (t := 32) ri_200_1 (by rw [h1]; first | done | decide) (by rw [h1]; first | done | decide) (by rw [h1]; first | done | rfl) rfl ?_
    refine rs_aload_n ri_200_32 rfl rfl ?_
    refine rs_gf (v := .ref 164) ri_200_33 rfl (by decide) (ro_kf (kd_163 hL)) rfl (rf_163_2 hL) ?_
    refine rs_iload_n ri_200_36 rfl rfl ?_
    refine rs_iload_n ri_200_37 rfl rfl ?_
    obtain ⟨q1, hp⟩ := hp
    refine rs_iast (j := v2.toNatClampNeg) ri_200_38 rfl (by decide) (kd_164 hL) q1 rfl ?_
    refine rs_goto (t := 81) ri_200_39 rfl ?_
    refine rs_ret ri_200_81 rm_200.2.1 (by decide) ?_
    exact ⟨by rfl, by unfold xm_200; first | (simp only [if_pos h1]; done) | rfl⟩
  · have hp := hp.2 h1
    by_cases h3 : v1 = (1 : Int32)
    · have hp := hp.1 h3
      refine rs_swIn (o := 41) (t := 42) ri_200_1 (by rw [h3]; first | done | decide) (by rw [h3]; first | done | decide) (by rw [h3]; first | done | rfl) rfl ?_
      refine rs_aload_n ri_200_42 rfl rfl ?_
      refine rs_gf (v := .ref 165) ri_200_43 rfl (by decide) (ro_kf (kd_163 hL)) rfl (rf_163_3 hL) ?_
      refine rs_iload_n ri_200_46 rfl rfl ?_
      refine rs_iload_n ri_200_47 rfl rfl ?_
      obtain ⟨q3, hp⟩ := hp
      refine rs_iast (j := v2.toNatClampNeg) ri_200_48 rfl (by decide) (kd_165 hL) q3 rfl ?_
      refine rs_goto (t := 81) ri_200_49 rfl ?_
      refine rs_ret ri_200_81 rm_200.2.1 (by decide) ?_
      exact ⟨by rfl, by unfold xm_200; first | (simp only [if_neg h1, if_pos h3]; done) | rfl⟩
    · have hp := hp.2 h3
      by_cases h5 : v1 = (2 : Int32)
      · have hp := hp.1 h5
        refine rs_swIn (o := 51) (t := 52) ri_200_1 (by rw [h5]; first | done | decide) (by rw [h5]; first | done | decide) (by rw [h5]; first | done | rfl) rfl ?_
        refine rs_aload_n ri_200_52 rfl rfl ?_
        refine rs_gf (v := .ref 166) ri_200_53 rfl (by decide) (ro_kf (kd_163 hL)) rfl (rf_163_4 hL) ?_
        refine rs_iload_n ri_200_56 rfl rfl ?_
        refine rs_iload_n ri_200_57 rfl rfl ?_
        obtain ⟨q5, hp⟩ := hp
        refine rs_iast (j := v2.toNatClampNeg) ri_200_58 rfl (by decide) (kd_166 hL) q5 rfl ?_
        refine rs_goto (t := 81) ri_200_59 rfl ?_
        refine rs_ret ri_200_81 rm_200.2.1 (by decide) ?_
        exact ⟨by rfl, by unfold xm_200; first | (simp only [if_neg h1, if_neg h3, if_pos h5]; done) | rfl⟩
      · have hp := hp.2 h5
        by_cases h7 : v1 = (3 : Int32)
        · have hp := hp.1 h7
          refine rs_swIn (o := 61) (t := 62) ri_200_1 (by rw [h7]; first | done | decide) (by rw [h7]; first | done | decide) (by rw [h7]; first | done | rfl) rfl ?_
          refine rs_aload_n ri_200_62 rfl rfl ?_
          refine rs_gf (v := .ref 167) ri_200_63 rfl (by decide) (ro_kf (kd_163 hL)) rfl (rf_163_5 hL) ?_
          refine rs_iload_n ri_200_66 rfl rfl ?_
          refine rs_iload_n ri_200_67 rfl rfl ?_
          obtain ⟨q7, hp⟩ := hp
          refine rs_iast (j := v2.toNatClampNeg) ri_200_68 rfl (by decide) (kd_167 hL) q7 rfl ?_
          refine rs_goto (t := 81) ri_200_69 rfl ?_
          refine rs_ret ri_200_81 rm_200.2.1 (by decide) ?_
          exact ⟨by rfl, by unfold xm_200; first | (simp only [if_neg h1, if_neg h3, if_neg h5, if_pos h7]; done) | rfl⟩
        · have hp := hp.2 h7
          refine rs_swOut (t := 72) ri_200_1 (by have g0 := ro_ne_i (z := 0) h1 rfl; have g1 := ro_ne_i (z := 1) h3 rfl; have g2 := ro_ne_i (z := 2) h5 rfl; have g3 := ro_ne_i (z := 3) h7 rfl; omega) rfl ?_
          refine rs_aload_n ri_200_72 rfl rfl ?_
          refine rs_gf (v := .ref 168) ri_200_73 rfl (by decide) (ro_kf (kd_163 hL)) rfl (rf_163_6 hL) ?_
          refine rs_iload_n ri_200_76 rfl rfl ?_
          refine rs_iconst (v := (4 : Int32)) ri_200_77 rfl (by decide) ?_
          refine rs_isub (r := (v1 - (4 : Int32))) ri_200_78 rfl rfl ?_
          refine rs_iload_n ri_200_79 rfl rfl ?_
          obtain ⟨q8, hp⟩ := hp
          refine rs_iast (j := (v1 - (4 : Int32)).toNatClampNeg) ri_200_80 rfl (by decide) (kd_168 hL) q8 rfl ?_
          refine rs_ret ri_200_81 rm_200.2.1 (by decide) ?_
          exact ⟨by rfl, by unfold xm_200; first | (simp only [if_neg h1, if_neg h3, if_neg h5, if_neg h7]; done) | rfl⟩
theorem xl_200 {M : ro_Mm} {v1 : Int32} {v2 : Int32} {v3 : Int32} (hL : ro_lay M) (hp : xp_200 M v1 v2 v3) : ro_lay (xm_200 M v1 v2 v3) := by
  unfold xp_200 at hp
  unfold xm_200
  by_cases hz : v1 = (0 : Int32)
  · have hp := hp.1 hz
    rw [if_pos hz]
    obtain ⟨q1, hp⟩ := hp
    exact hL
  · have hp := hp.2 hz
    rw [if_neg hz]
    by_cases hz : v1 = (1 : Int32)
    · have hp := hp.1 hz
      rw [if_pos hz]
      obtain ⟨q3, hp⟩ := hp
      exact hL
    · have hp := hp.2 hz
      rw [if_neg hz]
      by_cases hz : v1 = (2 : Int32)
      · have hp := hp.1 hz
        rw [if_pos hz]
        obtain ⟨q5, hp⟩ := hp
        exact hL
      · have hp := hp.2 hz
        rw [if_neg hz]
        by_cases hz : v1 = (3 : Int32)
        · have hp := hp.1 hz
          rw [if_pos hz]
          obtain ⟨q7, hp⟩ := hp
          exact hL
        · have hp := hp.2 hz
          rw [if_neg hz]
          obtain ⟨q8, hp⟩ := hp
          exact hL
theorem xwI_200 {M : ro_Mm} {v1 : Int32} {v2 : Int32} {v3 : Int32} {c j : Nat} (n0 : c ≠ 164) (n1 : c ≠ 165) (n2 : c ≠ 166) (n3 : c ≠ 167) (n4 : c ≠ 168) : (xm_200 M v1 v2 v3).2.1 c j = M.2.1 c j := by
  unfold xm_200
  by_cases hz : v1 = (0 : Int32)
  · rw [if_pos hz]
    first | done | exact (ro_sI_ne n0)
  · rw [if_neg hz]
    by_cases hz : v1 = (1 : Int32)
    · rw [if_pos hz]
      first | done | exact (ro_sI_ne n1)
    · rw [if_neg hz]
      by_cases hz : v1 = (2 : Int32)
      · rw [if_pos hz]
        first | done | exact (ro_sI_ne n2)
      · rw [if_neg hz]
        by_cases hz : v1 = (3 : Int32)
        · rw [if_pos hz]
          first | done | exact (ro_sI_ne n3)
        · rw [if_neg hz]
          first | done | exact (ro_sI_ne n4)
theorem xwJ_200 {M : ro_Mm} {v1 : Int32} {v2 : Int32} {v3 : Int32} {c j : Nat} : (xm_200 M v1 v2 v3).2.2.1 c j = M.2.2.1 c j := by
  unfold xm_200
  by_cases hz : v1 = (0 : Int32)
  · rw [if_pos hz]
    first | done | exact rfl
  · rw [if_neg hz]
    by_cases hz : v1 = (1 : Int32)
    · rw [if_pos hz]
      first | done | exact rfl
    · rw [if_neg hz]
      by_cases hz : v1 = (2 : Int32)
      · rw [if_pos hz]
        first | done | exact rfl
      · rw [if_neg hz]
        by_cases hz : v1 = (3 : Int32)
        · rw [if_pos hz]
          first | done | exact rfl
        · rw [if_neg hz]
          first | done | exact rfl
/-- RefusedOnceModel.redo()I -/
def xf_201 (M : ro_Mm) : Int32 := (if (M.2.1 163 8) = (0 : Int32) then (-5 : Int32) else ((M.2.1 163 8) - (1 : Int32)))
def xm_201 (M : ro_Mm) : ro_Mm := (if (M.2.1 163 8) = (0 : Int32) then M else (ro_sI (ro_sI (xm_200 M (M.2.1 169 ((M.2.1 163 7).toNatClampNeg)) (M.2.1 170 ((M.2.1 163 7).toNatClampNeg)) (M.2.1 172 ((M.2.1 163 7).toNatClampNeg))) 163 7 ((M.2.1 163 7) + (1 : Int32))) 163 8 ((M.2.1 163 8) - (1 : Int32))))
def xp_201 (M : ro_Mm) : Prop := (((M.2.1 163 8) = (0 : Int32) → True) ∧ (¬ ((M.2.1 163 8) = (0 : Int32)) → (vp_in (M.2.1 163 7) 40 ∧ (vp_in (M.2.1 163 7) 40 ∧ (vp_in (M.2.1 163 7) 40 ∧ (xp_200 M (M.2.1 169 ((M.2.1 163 7).toNatClampNeg)) (M.2.1 170 ((M.2.1 163 7).toNatClampNeg)) (M.2.1 172 ((M.2.1 163 7).toNatClampNeg)) ∧ True))))))
theorem xs_201 {X : ro_Sx} {M : ro_Mm} (hL : ro_lay M) (hp : xp_201 M) : ro_cwp X 2 201 [.ref 163] M (fun v M2 => v = some (.int (xf_201 M)) ∧ M2 = xm_201 M) := by
  refine rs_begin (lv0 := [(0, .ref 163)]) (by decide) rfl (by rw [rm_201.1]; exact Nat.le_of_ble_eq_true rfl) rfl ?_
  unfold xp_201 at hp
  refine rs_aload_n ri_201_0 rfl rfl ?_
  refine rs_gf (v := .int (M.2.1 163 8)) ri_201_1 rfl (by decide) (ro_kf (kd_163 hL)) rfl rfl ?_
  refine rs_if_ne (t := 10) ri_201_4 rfl rfl (fun h1 => ?_) (fun h1 => ?_)
  · have hp := hp.2 h1
    refine rs_aload_n ri_201_10 rfl rfl ?_
    refine rs_aload_n ri_201_11 rfl rfl ?_
    refine rs_gf (v := .ref 169) ri_201_12 rfl (by decide) (ro_kf (kd_163 hL)) rfl (rf_163_9 hL) ?_
    refine rs_aload_n ri_201_15 rfl rfl ?_
    refine rs_gf (v := .int (M.2.1 163 7)) ri_201_16 rfl (by decide) (ro_kf (kd_163 hL)) rfl rfl ?_
    obtain ⟨q1, hp⟩ := hp
    refine rs_iald (v := (M.2.1 169 ((M.2.1 163 7).toNatClampNeg))) ri_201_19 rfl (by decide) (kd_169 hL) q1 rfl ?_
    refine rs_aload_n ri_201_20 rfl rfl ?_
    refine rs_gf (v := .ref 170) ri_201_21 rfl (by decide) (ro_kf (kd_163 hL)) rfl (rf_163_10 hL) ?_
    refine rs_aload_n ri_201_24 rfl rfl ?_
    refine rs_gf (v := .int (M.2.1 163 7)) ri_201_25 rfl (by decide) (ro_kf (kd_163 hL)) rfl rfl ?_
    obtain ⟨q2, hp⟩ := hp
    refine rs_iald (v := (M.2.1 170 ((M.2.1 163 7).toNatClampNeg))) ri_201_28 rfl (by decide) (kd_170 hL) q2 rfl ?_
    refine rs_aload_n ri_201_29 rfl rfl ?_
    refine rs_gf (v := .ref 172) ri_201_30 rfl (by decide) (ro_kf (kd_163 hL)) rfl (rf_163_12 hL) ?_
    refine rs_aload_n ri_201_33 rfl rfl ?_
    refine rs_gf (v := .int (M.2.1 163 7)) ri_201_34 rfl (by decide) (ro_kf (kd_163 hL)) rfl rfl ?_
    obtain ⟨q3, hp⟩ := hp
    refine rs_iald (v := (M.2.1 172 ((M.2.1 163 7).toNatClampNeg))) ri_201_37 rfl (by decide) (kd_172 hL) q3 rfl ?_
    obtain ⟨q4, hp⟩ := hp
    refine rs_virt (As := [.int (M.2.1 169 ((M.2.1 163 7).toNatClampNeg)), .int (M.2.1 170 ((M.2.1 163 7).toNatClampNeg)), .int (M.2.1 172 ((M.2.1 163 7).toNatClampNeg))]) (r := []) ri_201_38 rfl (by decide) rm_200.2.2.2 rm_200.2.2.1 rfl rfl rfl (by decide) (ro_kf (kd_163 hL)) (Nat.le_of_ble_eq_true rfl) (by decide) (by decide) (xs_200 (X := X) hL q4) ?_
    rintro _ _ ⟨e1, e2⟩
    rw [e1, e2]
    show ro_w X _ 201 _ 41 [(0, .ref 163)] [] (xm_200 M (M.2.1 169 ((M.2.1 163 7).toNatClampNeg)) (M.2.1 170 ((M.2.1 163 7).toNatClampNeg)) (M.2.1 172 ((M.2.1 163 7).toNatClampNeg))) (0, 0)
    refine rs_aload_n ri_201_41 rfl rfl ?_
    refine rs_dup ri_201_42 rfl rfl ?_
    refine rs_gf (v := .int (M.2.1 163 7)) ri_201_43 rfl (by decide) (ro_kf (kd_163 (xl_200 hL q4))) rfl (congrArg Value.int (xwI_200 (by decide) (by decide) (by decide) (by decide) (by decide))) ?_
    refine rs_iconst (v := (1 : Int32)) ri_201_46 rfl (by decide) ?_
    refine rs_iadd (r := ((M.2.1 163 7) + (1 : Int32))) ri_201_47 rfl rfl ?_
    refine rs_pf (M2 := (ro_sI (xm_200 M (M.2.1 169 ((M.2.1 163 7).toNatClampNeg)) (M.2.1 170 ((M.2.1 163 7).toNatClampNeg)) (M.2.1 172 ((M.2.1 163 7).toNatClampNeg))) 163 7 ((M.2.1 163 7) + (1 : Int32)))) ri_201_48 rfl (by decide) (ro_kf (kd_163 (xl_200 hL q4))) (fun h => absurd h (by decide)) (fun f h => h) ?_
    refine rs_aload_n ri_201_51 rfl rfl ?_
    refine rs_dup ri_201_52 rfl rfl ?_
    refine rs_gf (v := .int (M.2.1 163 8)) ri_201_53 rfl (by decide) (ro_kf (kd_163 (xl_200 hL q4))) rfl (congrArg Value.int (xwI_200 (by decide) (by decide) (by decide) (by decide) (by decide))) ?_
    refine rs_iconst (v := (1 : Int32)) ri_201_56 rfl (by decide) ?_
    refine rs_isub (r := ((M.2.1 163 8) - (1 : Int32))) ri_201_57 rfl rfl ?_
    refine rs_pf (M2 := (ro_sI (ro_sI (xm_200 M (M.2.1 169 ((M.2.1 163 7).toNatClampNeg)) (M.2.1 170 ((M.2.1 163 7).toNatClampNeg)) (M.2.1 172 ((M.2.1 163 7).toNatClampNeg))) 163 7 ((M.2.1 163 7) + (1 : Int32))) 163 8 ((M.2.1 163 8) - (1 : Int32)))) ri_201_58 rfl (by decide) (ro_kf (kd_163 (xl_200 hL q4))) (fun h => absurd h (by decide)) (fun f h => h) ?_
    refine rs_aload_n ri_201_61 rfl rfl ?_
    refine rs_gf (v := .int ((M.2.1 163 8) - (1 : Int32))) ri_201_62 rfl (by decide) (ro_kf (kd_163 (xl_200 hL q4))) rfl rfl ?_
    refine rs_iret ri_201_65 rm_201.2.1 (by decide) ?_
    exact ⟨by unfold xf_201; first | (simp only [if_neg h1]; done) | rfl, by unfold xm_201; first | (simp only [if_neg h1]; done) | rfl⟩
  · have hp := hp.1 h1
    refine rs_bipush (v := (-5 : Int32)) ri_201_7 rfl (by decide) ?_
    refine rs_iret ri_201_9 rm_201.2.1 (by decide) ?_
    exact ⟨by unfold xf_201; first | (simp only [if_pos h1]; done) | rfl, by unfold xm_201; first | (simp only [if_pos h1]; done) | rfl⟩
theorem xl_201 {M : ro_Mm} (hL : ro_lay M) (hp : xp_201 M) : ro_lay (xm_201 M) := by
  unfold xp_201 at hp
  unfold xm_201
  by_cases hz : (M.2.1 163 8) = (0 : Int32)
  · have hp := hp.1 hz
    rw [if_pos hz]
    exact hL
  · have hp := hp.2 hz
    rw [if_neg hz]
    obtain ⟨q1, hp⟩ := hp
    obtain ⟨q2, hp⟩ := hp
    obtain ⟨q3, hp⟩ := hp
    obtain ⟨q4, hp⟩ := hp
    exact (xl_200 hL q4)
theorem xwI_201 {M : ro_Mm} {c j : Nat} (n0 : c ≠ 164) (n1 : c ≠ 165) (n2 : c ≠ 166) (n3 : c ≠ 167) (n4 : c ≠ 168) (n5 : c ≠ 163) : (xm_201 M).2.1 c j = M.2.1 c j := by
  unfold xm_201
  by_cases hz : (M.2.1 163 8) = (0 : Int32)
  · rw [if_pos hz]
    first | done | exact rfl
  · rw [if_neg hz]
    first | done | exact ((((ro_sI_ne n5)).trans (ro_sI_ne n5)).trans (xwI_200 n0 n1 n2 n3 n4))
theorem xwJ_201 {M : ro_Mm} {c j : Nat} : (xm_201 M).2.2.1 c j = M.2.2.1 c j := by
  unfold xm_201
  by_cases hz : (M.2.1 163 8) = (0 : Int32)
  · rw [if_pos hz]
    first | done | exact rfl
  · rw [if_neg hz]
    first | done | exact (xwJ_200)
/-- RefusedOnceModel.isOne(I)Z -/
def xf_204 (M : ro_Mm) (v1 : Int32) : Bool := (xf_195 M v1 (0 : Int32) ((M.2.1 163 1) - (1 : Int32)))
theorem xs_204 {X : ro_Sx} {M : ro_Mm} {v1 : Int32} (hL : ro_lay M) : ro_cwp X 2 204 [.ref 163, .int v1] M (fun v M2 => v = some (.int (ro_b (xf_204 M v1))) ∧ M2 = M) := by
  refine rs_begin (lv0 := [(0, .ref 163), (1, .int v1)]) (by decide) rfl (by rw [rm_204.1]; exact Nat.le_of_ble_eq_true rfl) rfl ?_
  refine rs_iload_n ri_204_0 rfl rfl ?_
  refine rs_iconst (v := (0 : Int32)) ri_204_1 rfl (by decide) ?_
  refine rs_aload_n ri_204_2 rfl rfl ?_
  refine rs_gf (v := .int (M.2.1 163 1)) ri_204_3 rfl (by decide) (ro_kf (kd_163 hL)) rfl rfl ?_
  refine rs_iconst (v := (1 : Int32)) ri_204_6 rfl (by decide) ?_
  refine rs_isub (r := ((M.2.1 163 1) - (1 : Int32))) ri_204_7 rfl rfl ?_
  refine rs_stat (As := [.int v1, .int (0 : Int32), .int ((M.2.1 163 1) - (1 : Int32))]) (r := []) ri_204_8 rfl rm_195.2.2.2 rfl rfl rfl (Nat.le_of_ble_eq_true rfl) (by decide) (by decide) (xs_195 (X := X) hL) ?_
  rintro _ _ ⟨e1, e2⟩
  rw [e1, e2]
  show ro_w X _ 204 _ 11 [(0, .ref 163), (1, .int v1)] [.int (ro_b (xf_195 M v1 (0 : Int32) ((M.2.1 163 1) - (1 : Int32))))] M (0, 0)
  refine rs_zret (p := (xf_195 M v1 (0 : Int32) ((M.2.1 163 1) - (1 : Int32)))) ri_204_11 rm_204.2.1 (by decide) rfl ?_
  exact ⟨by rfl, by rfl⟩
/-- RefusedOnceModel.mayHave(II)Z -/
def xf_205 (M : ro_Mm) (v0 : Int32) (v1 : Int32) : Bool := (if v0 = (2 : Int32) then (xf_195 M v1 (0 : Int32) (12 : Int32)) else (if v0 = (4 : Int32) then (xf_195 M v1 (0 : Int32) (4 : Int32)) else (if v0 = (5 : Int32) then (xf_195 M v1 (0 : Int32) (11 : Int32)) else (if v0 = (6 : Int32) then (xf_195 M v1 (0 : Int32) (12 : Int32)) else (xf_195 M v1 (0 : Int32) (20 : Int32))))))
theorem xs_205 {X : ro_Sx} {M : ro_Mm} {v0 : Int32} {v1 : Int32} (hL : ro_lay M) : ro_cwp X 2 205 [.int v0, .int v1] M (fun v M2 => v = some (.int (ro_b (xf_205 M v0 v1))) ∧ M2 = M) := by
  refine rs_begin (lv0 := [(0, .int v0), (1, .int v1)]) (by decide) rfl (by rw [rm_205.1]; exact Nat.le_of_ble_eq_true rfl) rfl ?_
  refine rs_iload_n ri_205_0 rfl rfl ?_
  by_cases h1 : v0 = (2 : Int32)
  · skip
    refine rs_swIn (o := 35) (t := 36) ri_205_1 (by rw [h1]; first | done | decide) (by rw [h1]; first | done | decide) (by rw [h1]; first | done | rfl) rfl ?_
    refine rs_iload_n ri_205_36 rfl rfl ?_
    refine rs_iconst (v := (0 : Int32)) ri_205_37 rfl (by decide) ?_
    refine rs_bipush (v := (12 : Int32)) ri_205_38 rfl (by decide) ?_
    refine rs_stat (As := [.int v1, .int (0 : Int32), .int (12 : Int32)]) (r := []) ri_205_40 rfl rm_195.2.2.2 rfl rfl rfl (Nat.le_of_ble_eq_true rfl) (by decide) (by decide) (xs_195 (X := X) hL) ?_
    rintro _ _ ⟨e1, e2⟩
    rw [e1, e2]
    show ro_w X _ 205 _ 43 [(0, .int v0), (1, .int v1)] [.int (ro_b (xf_195 M v1 (0 : Int32) (12 : Int32)))] M (0, 0)
    refine rs_zret (p := (xf_195 M v1 (0 : Int32) (12 : Int32))) ri_205_43 rm_205.2.1 (by decide) rfl ?_
    exact ⟨by unfold xf_205; first | (simp only [if_pos h1]; done) | rfl, by rfl⟩
  · skip
    by_cases h2 : v0 = (4 : Int32)
    · skip
      refine rs_swIn (o := 43) (t := 44) ri_205_1 (by rw [h2]; first | done | decide) (by rw [h2]; first | done | decide) (by rw [h2]; first | done | rfl) rfl ?_
      refine rs_iload_n ri_205_44 rfl rfl ?_
      refine rs_iconst (v := (0 : Int32)) ri_205_45 rfl (by decide) ?_
      refine rs_iconst (v := (4 : Int32)) ri_205_46 rfl (by decide) ?_
      refine rs_stat (As := [.int v1, .int (0 : Int32), .int (4 : Int32)]) (r := []) ri_205_47 rfl rm_195.2.2.2 rfl rfl rfl (Nat.le_of_ble_eq_true rfl) (by decide) (by decide) (xs_195 (X := X) hL) ?_
      rintro _ _ ⟨e1, e2⟩
      rw [e1, e2]
      show ro_w X _ 205 _ 50 [(0, .int v0), (1, .int v1)] [.int (ro_b (xf_195 M v1 (0 : Int32) (4 : Int32)))] M (0, 0)
      refine rs_zret (p := (xf_195 M v1 (0 : Int32) (4 : Int32))) ri_205_50 rm_205.2.1 (by decide) rfl ?_
      exact ⟨by unfold xf_205; first | (simp only [if_neg h1, if_pos h2]; done) | rfl, by rfl⟩
    · skip
      by_cases h3 : v0 = (5 : Int32)
      · skip
        refine rs_swIn (o := 50) (t := 51) ri_205_1 (by rw [h3]; first | done | decide) (by rw [h3]; first | done | decide) (by rw [h3]; first | done | rfl) rfl ?_
        refine rs_iload_n ri_205_51 rfl rfl ?_
        refine rs_iconst (v := (0 : Int32)) ri_205_52 rfl (by decide) ?_
        refine rs_bipush (v := (11 : Int32)) ri_205_53 rfl (by decide) ?_
        refine rs_stat (As := [.int v1, .int (0 : Int32), .int (11 : Int32)]) (r := []) ri_205_55 rfl rm_195.2.2.2 rfl rfl rfl (Nat.le_of_ble_eq_true rfl) (by decide) (by decide) (xs_195 (X := X) hL) ?_
        rintro _ _ ⟨e1, e2⟩
        rw [e1, e2]
        show ro_w X _ 205 _ 58 [(0, .int v0), (1, .int v1)] [.int (ro_b (xf_195 M v1 (0 : Int32) (11 : Int32)))] M (0, 0)
        refine rs_zret (p := (xf_195 M v1 (0 : Int32) (11 : Int32))) ri_205_58 rm_205.2.1 (by decide) rfl ?_
        exact ⟨by unfold xf_205; first | (simp only [if_neg h1, if_neg h2, if_pos h3]; done) | rfl, by rfl⟩
      · skip
        by_cases h4 : v0 = (6 : Int32)
        · skip
          refine rs_swIn (o := 58) (t := 59) ri_205_1 (by rw [h4]; first | done | decide) (by rw [h4]; first | done | decide) (by rw [h4]; first | done | rfl) rfl ?_
          refine rs_iload_n ri_205_59 rfl rfl ?_
          refine rs_iconst (v := (0 : Int32)) ri_205_60 rfl (by decide) ?_
          refine rs_bipush (v := (12 : Int32)) ri_205_61 rfl (by decide) ?_
          refine rs_stat (As := [.int v1, .int (0 : Int32), .int (12 : Int32)]) (r := []) ri_205_63 rfl rm_195.2.2.2 rfl rfl rfl (Nat.le_of_ble_eq_true rfl) (by decide) (by decide) (xs_195 (X := X) hL) ?_
          rintro _ _ ⟨e1, e2⟩
          rw [e1, e2]
          show ro_w X _ 205 _ 66 [(0, .int v0), (1, .int v1)] [.int (ro_b (xf_195 M v1 (0 : Int32) (12 : Int32)))] M (0, 0)
          refine rs_zret (p := (xf_195 M v1 (0 : Int32) (12 : Int32))) ri_205_66 rm_205.2.1 (by decide) rfl ?_
          exact ⟨by unfold xf_205; first | (simp only [if_neg h1, if_neg h2, if_neg h3, if_pos h4]; done) | rfl, by rfl⟩
        · skip
          refine rs_swDef (t := 67) ri_205_1 (fun z => by have g0 := ro_ne_i (z := 2) h1 rfl; have g1 := ro_ne_i (z := 4) h2 rfl; have g2 := ro_ne_i (z := 5) h3 rfl; have g3 := ro_ne_i (z := 6) h4 rfl; rcases (show v0.toInt = 3 by omega) with g <;> rw [g] <;> rfl) rfl ?_
          refine rs_iload_n ri_205_67 rfl rfl ?_
          refine rs_iconst (v := (0 : Int32)) ri_205_68 rfl (by decide) ?_
          refine rs_bipush (v := (20 : Int32)) ri_205_69 rfl (by decide) ?_
          refine rs_stat (As := [.int v1, .int (0 : Int32), .int (20 : Int32)]) (r := []) ri_205_71 rfl rm_195.2.2.2 rfl rfl rfl (Nat.le_of_ble_eq_true rfl) (by decide) (by decide) (xs_195 (X := X) hL) ?_
          rintro _ _ ⟨e1, e2⟩
          rw [e1, e2]
          show ro_w X _ 205 _ 74 [(0, .int v0), (1, .int v1)] [.int (ro_b (xf_195 M v1 (0 : Int32) (20 : Int32)))] M (0, 0)
          refine rs_zret (p := (xf_195 M v1 (0 : Int32) (20 : Int32))) ri_205_74 rm_205.2.1 (by decide) rfl ?_
          exact ⟨by unfold xf_205; first | (simp only [if_neg h1, if_neg h2, if_neg h3, if_neg h4]; done) | rfl, by rfl⟩
/-- RefusedOnceModel.valueAt(II)I -/
def xf_207 (M : ro_Mm) (v1 : Int32) (v2 : Int32) : Int32 := (if v1 = (0 : Int32) then (M.2.1 164 (v2.toNatClampNeg)) else (if v1 = (1 : Int32) then (M.2.1 165 (v2.toNatClampNeg)) else (if v1 = (2 : Int32) then (M.2.1 166 (v2.toNatClampNeg)) else (if v1 = (3 : Int32) then (M.2.1 167 (v2.toNatClampNeg)) else (M.2.1 168 ((v1 - (4 : Int32)).toNatClampNeg))))))
def xp_207 (M : ro_Mm) (v1 : Int32) (v2 : Int32) : Prop := ((v1 = (0 : Int32) → (vp_in v2 6 ∧ True)) ∧ (¬ (v1 = (0 : Int32)) → ((v1 = (1 : Int32) → (vp_in v2 6 ∧ True)) ∧ (¬ (v1 = (1 : Int32)) → ((v1 = (2 : Int32) → (vp_in v2 6 ∧ True)) ∧ (¬ (v1 = (2 : Int32)) → ((v1 = (3 : Int32) → (vp_in v2 6 ∧ True)) ∧ (¬ (v1 = (3 : Int32)) → (vp_in (v1 - (4 : Int32)) 3 ∧ True)))))))))
theorem xs_207 {X : ro_Sx} {M : ro_Mm} {v1 : Int32} {v2 : Int32} (hL : ro_lay M) (hp : xp_207 M v1 v2) : ro_cwp X 1 207 [.ref 163, .int v1, .int v2] M (fun v M2 => v = some (.int (xf_207 M v1 v2)) ∧ M2 = M) := by
  refine rs_begin (lv0 := [(0, .ref 163), (1, .int v1), (2, .int v2)]) (by decide) rfl (by rw [rm_207.1]; exact Nat.le_of_ble_eq_true rfl) rfl ?_
  unfold xp_207 at hp
  refine rs_iload_n ri_207_0 rfl rfl ?_
  by_cases h1 : v1 = (0 : Int32)
  · have hp := hp.1 h1
    refine rs_swIn (o := 31) (t := 32) ri_207_1 (by rw [h1]; first | done | decide) (by rw [h1]; first | done | decide) (by rw [h1]; first | done | rfl) rfl ?_
    refine rs_aload_n ri_207_32 rfl rfl ?_
    refine rs_gf (v := .ref 164) ri_207_33 rfl (by decide) (ro_kf (kd_163 hL)) rfl (rf_163_2 hL) ?_
    refine rs_iload_n ri_207_36 rfl rfl ?_
    obtain ⟨q1, hp⟩ := hp
    refine rs_iald (v := (M.2.1 164 (v2.toNatClampNeg))) ri_207_37 rfl (by decide) (kd_164 hL) q1 rfl ?_
    refine rs_iret ri_207_38 rm_207.2.1 (by decide) ?_
    exact ⟨by unfold xf_207; first | (simp only [if_pos h1]; done) | rfl, by rfl⟩
  · have hp := hp.2 h1
    by_cases h3 : v1 = (1 : Int32)
    · have hp := hp.1 h3
      refine rs_swIn (o := 38) (t := 39) ri_207_1 (by rw [h3]; first | done | decide) (by rw [h3]; first | done | decide) (by rw [h3]; first | done | rfl) rfl ?_
      refine rs_aload_n ri_207_39 rfl rfl ?_
      refine rs_gf (v := .ref 165) ri_207_40 rfl (by decide) (ro_kf (kd_163 hL)) rfl (rf_163_3 hL) ?_
      refine rs_iload_n ri_207_43 rfl rfl ?_
      obtain ⟨q3, hp⟩ := hp
      refine rs_iald (v := (M.2.1 165 (v2.toNatClampNeg))) ri_207_44 rfl (by decide) (kd_165 hL) q3 rfl ?_
      refine rs_iret ri_207_45 rm_207.2.1 (by decide) ?_
      exact ⟨by unfold xf_207; first | (simp only [if_neg h1, if_pos h3]; done) | rfl, by rfl⟩
    · have hp := hp.2 h3
      by_cases h5 : v1 = (2 : Int32)
      · have hp := hp.1 h5
        refine rs_swIn (o := 45) (t := 46) ri_207_1 (by rw [h5]; first | done | decide) (by rw [h5]; first | done | decide) (by rw [h5]; first | done | rfl) rfl ?_
        refine rs_aload_n ri_207_46 rfl rfl ?_
        refine rs_gf (v := .ref 166) ri_207_47 rfl (by decide) (ro_kf (kd_163 hL)) rfl (rf_163_4 hL) ?_
        refine rs_iload_n ri_207_50 rfl rfl ?_
        obtain ⟨q5, hp⟩ := hp
        refine rs_iald (v := (M.2.1 166 (v2.toNatClampNeg))) ri_207_51 rfl (by decide) (kd_166 hL) q5 rfl ?_
        refine rs_iret ri_207_52 rm_207.2.1 (by decide) ?_
        exact ⟨by unfold xf_207; first | (simp only [if_neg h1, if_neg h3, if_pos h5]; done) | rfl, by rfl⟩
      · have hp := hp.2 h5
        by_cases h7 : v1 = (3 : Int32)
        · have hp := hp.1 h7
          refine rs_swIn (o := 52) (t := 53) ri_207_1 (by rw [h7]; first | done | decide) (by rw [h7]; first | done | decide) (by rw [h7]; first | done | rfl) rfl ?_
          refine rs_aload_n ri_207_53 rfl rfl ?_
          refine rs_gf (v := .ref 167) ri_207_54 rfl (by decide) (ro_kf (kd_163 hL)) rfl (rf_163_5 hL) ?_
          refine rs_iload_n ri_207_57 rfl rfl ?_
          obtain ⟨q7, hp⟩ := hp
          refine rs_iald (v := (M.2.1 167 (v2.toNatClampNeg))) ri_207_58 rfl (by decide) (kd_167 hL) q7 rfl ?_
          refine rs_iret ri_207_59 rm_207.2.1 (by decide) ?_
          exact ⟨by unfold xf_207; first | (simp only [if_neg h1, if_neg h3, if_neg h5, if_pos h7]; done) | rfl, by rfl⟩
        · have hp := hp.2 h7
          refine rs_swOut (t := 60) ri_207_1 (by have g0 := ro_ne_i (z := 0) h1 rfl; have g1 := ro_ne_i (z := 1) h3 rfl; have g2 := ro_ne_i (z := 2) h5 rfl; have g3 := ro_ne_i (z := 3) h7 rfl; omega) rfl ?_
          refine rs_aload_n ri_207_60 rfl rfl ?_
          refine rs_gf (v := .ref 168) ri_207_61 rfl (by decide) (ro_kf (kd_163 hL)) rfl (rf_163_6 hL) ?_
          refine rs_iload_n ri_207_64 rfl rfl ?_
          refine rs_iconst (v := (4 : Int32)) ri_207_65 rfl (by decide) ?_
          refine rs_isub (r := (v1 - (4 : Int32))) ri_207_66 rfl rfl ?_
          obtain ⟨q8, hp⟩ := hp
          refine rs_iald (v := (M.2.1 168 ((v1 - (4 : Int32)).toNatClampNeg))) ri_207_67 rfl (by decide) (kd_168 hL) q8 rfl ?_
          refine rs_iret ri_207_68 rm_207.2.1 (by decide) ?_
          exact ⟨by unfold xf_207; first | (simp only [if_neg h1, if_neg h3, if_neg h5, if_neg h7]; done) | rfl, by rfl⟩
/-- RefusedOnceModel.forgedOf(I)I -/
def xf_209 (M : ro_Mm) (v1 : Int32) : Int32 := (if (M.2.1 165 (v1.toNatClampNeg)) ≤ (M.2.1 167 (v1.toNatClampNeg)) then (M.2.1 165 (v1.toNatClampNeg)) else (M.2.1 167 (v1.toNatClampNeg)))
def xp_209 (M : ro_Mm) (v1 : Int32) : Prop := (vp_in v1 6 ∧ (vp_in v1 6 ∧ (((M.2.1 165 (v1.toNatClampNeg)) ≤ (M.2.1 167 (v1.toNatClampNeg)) → (vp_in v1 6 ∧ True)) ∧ (¬ ((M.2.1 165 (v1.toNatClampNeg)) ≤ (M.2.1 167 (v1.toNatClampNeg))) → (vp_in v1 6 ∧ True)))))
theorem xs_209 {X : ro_Sx} {M : ro_Mm} {v1 : Int32} (hL : ro_lay M) (hp : xp_209 M v1) : ro_cwp X 1 209 [.ref 163, .int v1] M (fun v M2 => v = some (.int (xf_209 M v1)) ∧ M2 = M) := by
  refine rs_begin (lv0 := [(0, .ref 163), (1, .int v1)]) (by decide) rfl (by rw [rm_209.1]; exact Nat.le_of_ble_eq_true rfl) rfl ?_
  unfold xp_209 at hp
  refine rs_aload_n ri_209_0 rfl rfl ?_
  refine rs_gf (v := .ref 167) ri_209_1 rfl (by decide) (ro_kf (kd_163 hL)) rfl (rf_163_5 hL) ?_
  refine rs_iload_n ri_209_4 rfl rfl ?_
  obtain ⟨q0, hp⟩ := hp
  refine rs_iald (v := (M.2.1 167 (v1.toNatClampNeg))) ri_209_5 rfl (by decide) (kd_167 hL) q0 rfl ?_
  refine rs_aload_n ri_209_6 rfl rfl ?_
  refine rs_gf (v := .ref 165) ri_209_7 rfl (by decide) (ro_kf (kd_163 hL)) rfl (rf_163_3 hL) ?_
  refine rs_iload_n ri_209_10 rfl rfl ?_
  obtain ⟨q1, hp⟩ := hp
  refine rs_iald (v := (M.2.1 165 (v1.toNatClampNeg))) ri_209_11 rfl (by decide) (kd_165 hL) q1 rfl ?_
  refine rs_icmp_ge (t := 24) ri_209_12 rfl rfl (fun h3 => ?_) (fun h3 => ?_)
  · have hp := hp.1 h3
    refine rs_aload_n ri_209_24 rfl rfl ?_
    refine rs_gf (v := .ref 165) ri_209_25 rfl (by decide) (ro_kf (kd_163 hL)) rfl (rf_163_3 hL) ?_
    refine rs_iload_n ri_209_28 rfl rfl ?_
    obtain ⟨q3, hp⟩ := hp
    refine rs_iald (v := (M.2.1 165 (v1.toNatClampNeg))) ri_209_29 rfl (by decide) (kd_165 hL) q3 rfl ?_
    refine rs_iret ri_209_30 rm_209.2.1 (by decide) ?_
    exact ⟨by unfold xf_209; first | (simp only [if_pos h3]; done) | rfl, by rfl⟩
  · have hp := hp.2 h3
    refine rs_aload_n ri_209_15 rfl rfl ?_
    refine rs_gf (v := .ref 167) ri_209_16 rfl (by decide) (ro_kf (kd_163 hL)) rfl (rf_163_5 hL) ?_
    refine rs_iload_n ri_209_19 rfl rfl ?_
    obtain ⟨q4, hp⟩ := hp
    refine rs_iald (v := (M.2.1 167 (v1.toNatClampNeg))) ri_209_20 rfl (by decide) (kd_167 hL) q4 rfl ?_
    refine rs_goto (t := 30) ri_209_21 rfl ?_
    refine rs_iret ri_209_30 rm_209.2.1 (by decide) ?_
    exact ⟨by unfold xf_209; first | (simp only [if_neg h3]; done) | rfl, by rfl⟩
/-- RefusedOnceModel.feed(I)I -/
def xf_210 (M : ro_Mm) (v1 : Int32) : Int32 := (if (xf_195 M v1 (0 : Int32) (255 : Int32)) then (if (M.2.1 163 14) = (120 : Int32) then (-3 : Int32) else ((M.2.1 163 14) + (1 : Int32))) else (-1 : Int32))
def xm_210 (M : ro_Mm) (v1 : Int32) : ro_Mm := (if (xf_195 M v1 (0 : Int32) (255 : Int32)) then (if (M.2.1 163 14) = (120 : Int32) then M else (ro_sI (ro_sI M 173 ((M.2.1 163 14).toNatClampNeg) (vp_nar .byte (v1.toInt8.toInt32))) 163 14 ((M.2.1 163 14) + (1 : Int32)))) else M)
def xp_210 (M : ro_Mm) (v1 : Int32) : Prop := (((xf_195 M v1 (0 : Int32) (255 : Int32)) → (((M.2.1 163 14) = (120 : Int32) → True) ∧ (¬ ((M.2.1 163 14) = (120 : Int32)) → (vp_in (M.2.1 163 14) 120 ∧ True)))) ∧ (¬ ((xf_195 M v1 (0 : Int32) (255 : Int32))) → True))
theorem xs_210 {X : ro_Sx} {M : ro_Mm} {v1 : Int32} (hL : ro_lay M) (hp : xp_210 M v1) : ro_cwp X 2 210 [.ref 163, .int v1] M (fun v M2 => v = some (.int (xf_210 M v1)) ∧ M2 = xm_210 M v1) := by
  refine rs_begin (lv0 := [(0, .ref 163), (1, .int v1)]) (by decide) rfl (by rw [rm_210.1]; exact Nat.le_of_ble_eq_true rfl) rfl ?_
  unfold xp_210 at hp
  refine rs_iload_n ri_210_0 rfl rfl ?_
  refine rs_iconst (v := (0 : Int32)) ri_210_1 rfl (by decide) ?_
  refine rs_sipush (v := (255 : Int32)) ri_210_2 rfl (by decide) ?_
  refine rs_stat (As := [.int v1, .int (0 : Int32), .int (255 : Int32)]) (r := []) ri_210_5 rfl rm_195.2.2.2 rfl rfl rfl (Nat.le_of_ble_eq_true rfl) (by decide) (by decide) (xs_195 (X := X) hL) ?_
  rintro _ _ ⟨e1, e2⟩
  rw [e1, e2]
  show ro_w X _ 210 _ 8 [(0, .ref 163), (1, .int v1)] [.int (ro_b (xf_195 M v1 (0 : Int32) (255 : Int32)))] M (0, 0)
  refine rs_ifne_c (t := 13) ri_210_8 rfl rfl (fun h1 => ?_) (fun h1 => ?_)
  · have hp := hp.1 h1
    refine rs_aload_n ri_210_13 rfl rfl ?_
    refine rs_gf (v := .int (M.2.1 163 14)) ri_210_14 rfl (by decide) (ro_kf (kd_163 hL)) rfl rfl ?_
    refine rs_bipush (v := (120 : Int32)) ri_210_17 rfl (by decide) ?_
    refine rs_icmp_ne (t := 25) ri_210_19 rfl rfl (fun h2 => ?_) (fun h2 => ?_)
    · have hp := hp.2 h2
      refine rs_aload_n ri_210_25 rfl rfl ?_
      refine rs_gf (v := .ref 173) ri_210_26 rfl (by decide) (ro_kf (kd_163 hL)) rfl (rf_163_13 hL) ?_
      refine rs_aload_n ri_210_29 rfl rfl ?_
      refine rs_gf (v := .int (M.2.1 163 14)) ri_210_30 rfl (by decide) (ro_kf (kd_163 hL)) rfl rfl ?_
      refine rs_iload_n ri_210_33 rfl rfl ?_
      refine rs_i2b (r := (v1.toInt8.toInt32)) ri_210_34 rfl rfl ?_
      obtain ⟨q2, hp⟩ := hp
      refine rs_bast (j := (M.2.1 163 14).toNatClampNeg) ri_210_35 rfl (by decide) (kd_173 hL) q2 rfl ?_
      refine rs_aload_n ri_210_36 rfl rfl ?_
      refine rs_dup ri_210_37 rfl rfl ?_
      refine rs_gf (v := .int (M.2.1 163 14)) ri_210_38 rfl (by decide) (ro_kf (kd_163 hL)) rfl rfl ?_
      refine rs_iconst (v := (1 : Int32)) ri_210_41 rfl (by decide) ?_
      refine rs_iadd (r := ((M.2.1 163 14) + (1 : Int32))) ri_210_42 rfl rfl ?_
      refine rs_pf (M2 := (ro_sI (ro_sI M 173 ((M.2.1 163 14).toNatClampNeg) (vp_nar .byte (v1.toInt8.toInt32))) 163 14 ((M.2.1 163 14) + (1 : Int32)))) ri_210_43 rfl (by decide) (ro_kf (kd_163 hL)) (fun h => absurd h (by decide)) (fun f h => h) ?_
      refine rs_aload_n ri_210_46 rfl rfl ?_
      refine rs_gf (v := .int ((M.2.1 163 14) + (1 : Int32))) ri_210_47 rfl (by decide) (ro_kf (kd_163 hL)) rfl rfl ?_
      refine rs_iret ri_210_50 rm_210.2.1 (by decide) ?_
      exact ⟨by unfold xf_210; first | (simp only [if_pos h1, if_neg h2]; done) | rfl, by unfold xm_210; first | (simp only [if_pos h1, if_neg h2]; done) | rfl⟩
    · have hp := hp.1 h2
      refine rs_bipush (v := (-3 : Int32)) ri_210_22 rfl (by decide) ?_
      refine rs_iret ri_210_24 rm_210.2.1 (by decide) ?_
      exact ⟨by unfold xf_210; first | (simp only [if_pos h1, if_pos h2]; done) | rfl, by unfold xm_210; first | (simp only [if_pos h1, if_pos h2]; done) | rfl⟩
  · have hp := hp.2 h1
    refine rs_iconst (v := (-1 : Int32)) ri_210_11 rfl (by decide) ?_
    refine rs_iret ri_210_12 rm_210.2.1 (by decide) ?_
    exact ⟨by unfold xf_210; first | (simp only [if_neg h1]; done) | rfl, by unfold xm_210; first | (simp only [if_neg h1]; done) | rfl⟩
theorem xl_210 {M : ro_Mm} {v1 : Int32} (hL : ro_lay M) (hp : xp_210 M v1) : ro_lay (xm_210 M v1) := by
  unfold xp_210 at hp
  unfold xm_210
  by_cases hz : (xf_195 M v1 (0 : Int32) (255 : Int32))
  · have hp := hp.1 hz
    rw [if_pos hz]
    by_cases hz : (M.2.1 163 14) = (120 : Int32)
    · have hp := hp.1 hz
      rw [if_pos hz]
      exact hL
    · have hp := hp.2 hz
      rw [if_neg hz]
      obtain ⟨q2, hp⟩ := hp
      exact hL
  · have hp := hp.2 hz
    rw [if_neg hz]
    exact hL
theorem xwI_210 {M : ro_Mm} {v1 : Int32} {c j : Nat} (n0 : c ≠ 173) (n1 : c ≠ 163) : (xm_210 M v1).2.1 c j = M.2.1 c j := by
  unfold xm_210
  by_cases hz : (xf_195 M v1 (0 : Int32) (255 : Int32))
  · rw [if_pos hz]
    by_cases hz : (M.2.1 163 14) = (120 : Int32)
    · rw [if_pos hz]
      first | done | exact rfl
    · rw [if_neg hz]
      first | done | exact (((ro_sI_ne n1)).trans (ro_sI_ne n0))
  · rw [if_neg hz]
    first | done | exact rfl
theorem xwJ_210 {M : ro_Mm} {v1 : Int32} {c j : Nat} : (xm_210 M v1).2.2.1 c j = M.2.2.1 c j := by
  unfold xm_210
  by_cases hz : (xf_195 M v1 (0 : Int32) (255 : Int32))
  · rw [if_pos hz]
    by_cases hz : (M.2.1 163 14) = (120 : Int32)
    · rw [if_pos hz]
      first | done | exact rfl
    · rw [if_neg hz]
      first | done | exact rfl
  · rw [if_neg hz]
    first | done | exact rfl
/-- RefusedOnceModel.look()I -/
def xf_220 (M : ro_Mm) : Int32 := (if (M.2.1 163 14) ≤ (M.2.1 163 15) then (-1 : Int32) else (M.2.1 173 ((M.2.1 163 15).toNatClampNeg)))
def xp_220 (M : ro_Mm) : Prop := (((M.2.1 163 14) ≤ (M.2.1 163 15) → True) ∧ (¬ ((M.2.1 163 14) ≤ (M.2.1 163 15)) → (vp_in (M.2.1 163 15) 120 ∧ True)))
theorem xs_220 {X : ro_Sx} {M : ro_Mm} (hL : ro_lay M) (hp : xp_220 M) : ro_cwp X 1 220 [.ref 163] M (fun v M2 => v = some (.int (xf_220 M)) ∧ M2 = M) := by
  refine rs_begin (lv0 := [(0, .ref 163)]) (by decide) rfl (by rw [rm_220.1]; exact Nat.le_of_ble_eq_true rfl) rfl ?_
  unfold xp_220 at hp
  refine rs_aload_n ri_220_0 rfl rfl ?_
  refine rs_gf (v := .int (M.2.1 163 15)) ri_220_1 rfl (by decide) (ro_kf (kd_163 hL)) rfl rfl ?_
  refine rs_aload_n ri_220_4 rfl rfl ?_
  refine rs_gf (v := .int (M.2.1 163 14)) ri_220_5 rfl (by decide) (ro_kf (kd_163 hL)) rfl rfl ?_
  refine rs_icmp_ge (t := 23) ri_220_8 rfl rfl (fun h1 => ?_) (fun h1 => ?_)
  · have hp := hp.1 h1
    refine rs_iconst (v := (-1 : Int32)) ri_220_23 rfl (by decide) ?_
    refine rs_iret ri_220_24 rm_220.2.1 (by decide) ?_
    exact ⟨by unfold xf_220; first | (simp only [if_pos h1]; done) | rfl, by rfl⟩
  · have hp := hp.2 h1
    refine rs_aload_n ri_220_11 rfl rfl ?_
    refine rs_gf (v := .ref 173) ri_220_12 rfl (by decide) (ro_kf (kd_163 hL)) rfl (rf_163_13 hL) ?_
    refine rs_aload_n ri_220_15 rfl rfl ?_
    refine rs_gf (v := .int (M.2.1 163 15)) ri_220_16 rfl (by decide) (ro_kf (kd_163 hL)) rfl rfl ?_
    obtain ⟨q1, hp⟩ := hp
    refine rs_bald (v := (M.2.1 173 ((M.2.1 163 15).toNatClampNeg))) ri_220_19 rfl (by decide) (kd_173 hL) q1 rfl ?_
    refine rs_goto (t := 24) ri_220_20 rfl ?_
    refine rs_iret ri_220_24 rm_220.2.1 (by decide) ?_
    exact ⟨by unfold xf_220; first | (simp only [if_neg h1]; done) | rfl, by rfl⟩
/-- RefusedOnceModel.nameOf(I)I -/
def xf_221 (M : ro_Mm) (v0 : Int32) : Int32 := (if v0 = (98 : Int32) then (1 : Int32) else (if v0 = (99 : Int32) then (3 : Int32) else (if v0 = (104 : Int32) then (4 : Int32) else (if v0 = (110 : Int32) then (5 : Int32) else (if v0 = (112 : Int32) then (0 : Int32) else (if v0 = (119 : Int32) then (2 : Int32) else (-1 : Int32)))))))
theorem xs_221 {X : ro_Sx} {M : ro_Mm} {v0 : Int32} (hL : ro_lay M) : ro_cwp X 1 221 [.int v0] M (fun v M2 => v = some (.int (xf_221 M v0)) ∧ M2 = M) := by
  refine rs_begin (lv0 := [(0, .int v0)]) (by decide) rfl (by rw [rm_221.1]; exact Nat.le_of_ble_eq_true rfl) rfl ?_
  refine rs_iload_n ri_221_0 rfl rfl ?_
  by_cases h1 : v0 = (98 : Int32)
  · skip
    refine rs_look (t := 62) ri_221_1 (by decide) (by rw [h1]; first | done | rfl) rfl ?_
    refine rs_iconst (v := (1 : Int32)) ri_221_62 rfl (by decide) ?_
    refine rs_iret ri_221_63 rm_221.2.1 (by decide) ?_
    exact ⟨by unfold xf_221; first | (simp only [if_pos h1]; done) | rfl, by rfl⟩
  · skip
    by_cases h2 : v0 = (99 : Int32)
    · skip
      refine rs_look (t := 66) ri_221_1 (by decide) (by rw [h2]; first | done | rfl) rfl ?_
      refine rs_iconst (v := (3 : Int32)) ri_221_66 rfl (by decide) ?_
      refine rs_iret ri_221_67 rm_221.2.1 (by decide) ?_
      exact ⟨by unfold xf_221; first | (simp only [if_neg h1, if_pos h2]; done) | rfl, by rfl⟩
    · skip
      by_cases h3 : v0 = (104 : Int32)
      · skip
        refine rs_look (t := 68) ri_221_1 (by decide) (by rw [h3]; first | done | rfl) rfl ?_
        refine rs_iconst (v := (4 : Int32)) ri_221_68 rfl (by decide) ?_
        refine rs_iret ri_221_69 rm_221.2.1 (by decide) ?_
        exact ⟨by unfold xf_221; first | (simp only [if_neg h1, if_neg h2, if_pos h3]; done) | rfl, by rfl⟩
      · skip
        by_cases h4 : v0 = (110 : Int32)
        · skip
          refine rs_look (t := 70) ri_221_1 (by decide) (by rw [h4]; first | done | rfl) rfl ?_
          refine rs_iconst (v := (5 : Int32)) ri_221_70 rfl (by decide) ?_
          refine rs_iret ri_221_71 rm_221.2.1 (by decide) ?_
          exact ⟨by unfold xf_221; first | (simp only [if_neg h1, if_neg h2, if_neg h3, if_pos h4]; done) | rfl, by rfl⟩
        · skip
          by_cases h5 : v0 = (112 : Int32)
          · skip
            refine rs_look (t := 60) ri_221_1 (by decide) (by rw [h5]; first | done | rfl) rfl ?_
            refine rs_iconst (v := (0 : Int32)) ri_221_60 rfl (by decide) ?_
            refine rs_iret ri_221_61 rm_221.2.1 (by decide) ?_
            exact ⟨by unfold xf_221; first | (simp only [if_neg h1, if_neg h2, if_neg h3, if_neg h4, if_pos h5]; done) | rfl, by rfl⟩
          · skip
            by_cases h6 : v0 = (119 : Int32)
            · skip
              refine rs_look (t := 64) ri_221_1 (by decide) (by rw [h6]; first | done | rfl) rfl ?_
              refine rs_iconst (v := (2 : Int32)) ri_221_64 rfl (by decide) ?_
              refine rs_iret ri_221_65 rm_221.2.1 (by decide) ?_
              exact ⟨by unfold xf_221; first | (simp only [if_neg h1, if_neg h2, if_neg h3, if_neg h4, if_neg h5, if_pos h6]; done) | rfl, by rfl⟩
            · skip
              refine rs_look (t := 72) ri_221_1 (by decide) ((lv_osw h1 rfl).trans ((lv_osw h2 rfl).trans ((lv_osw h3 rfl).trans ((lv_osw h4 rfl).trans ((lv_osw h5 rfl).trans ((lv_osw h6 rfl).trans rfl)))))) rfl ?_
              refine rs_iconst (v := (-1 : Int32)) ri_221_72 rfl (by decide) ?_
              refine rs_iret ri_221_73 rm_221.2.1 (by decide) ?_
              exact ⟨by unfold xf_221; first | (simp only [if_neg h1, if_neg h2, if_neg h3, if_neg h4, if_neg h5, if_neg h6]; done) | rfl, by rfl⟩
/-- RefusedOnceModel.addStep(II)V -/
def xm_222 (M : ro_Mm) (v1 : Int32) (v2 : Int32) : ro_Mm := (ro_sI (ro_sI (ro_sI M 174 (((130 : Int32) + (M.2.1 163 18)).toNatClampNeg) (vp_nar .byte (v1.toInt8.toInt32))) 175 (((130 : Int32) + (M.2.1 163 18)).toNatClampNeg) v2) 163 18 ((M.2.1 163 18) + (1 : Int32)))
def xp_222 (M : ro_Mm) (v1 : Int32) (v2 : Int32) : Prop := (vp_in ((130 : Int32) + (M.2.1 163 18)) 260 ∧ (vp_in ((130 : Int32) + (M.2.1 163 18)) 260 ∧ True))
theorem xs_222 {X : ro_Sx} {M : ro_Mm} {v1 : Int32} {v2 : Int32} (hL : ro_lay M) (hp : xp_222 M v1 v2) : ro_cwp X 1 222 [.ref 163, .int v1, .int v2] M (fun v M2 => v = none ∧ M2 = xm_222 M v1 v2) := by
  refine rs_begin (lv0 := [(0, .ref 163), (1, .int v1), (2, .int v2)]) (by decide) rfl (by rw [rm_222.1]; exact Nat.le_of_ble_eq_true rfl) rfl ?_
  unfold xp_222 at hp
  refine rs_aload_n ri_222_0 rfl rfl ?_
  refine rs_gf (v := .ref 174) ri_222_1 rfl (by decide) (ro_kf (kd_163 hL)) rfl (rf_163_19 hL) ?_
  refine rs_sipush (v := (130 : Int32)) ri_222_4 rfl (by decide) ?_
  refine rs_aload_n ri_222_7 rfl rfl ?_
  refine rs_gf (v := .int (M.2.1 163 18)) ri_222_8 rfl (by decide) (ro_kf (kd_163 hL)) rfl rfl ?_
  refine rs_iadd (r := ((130 : Int32) + (M.2.1 163 18))) ri_222_11 rfl rfl ?_
  refine rs_iload_n ri_222_12 rfl rfl ?_
  refine rs_i2b (r := (v1.toInt8.toInt32)) ri_222_13 rfl rfl ?_
  obtain ⟨q0, hp⟩ := hp
  refine rs_bast (j := ((130 : Int32) + (M.2.1 163 18)).toNatClampNeg) ri_222_14 rfl (by decide) (kd_174 hL) q0 rfl ?_
  refine rs_aload_n ri_222_15 rfl rfl ?_
  refine rs_gf (v := .ref 175) ri_222_16 rfl (by decide) (ro_kf (kd_163 hL)) rfl (rf_163_20 hL) ?_
  refine rs_sipush (v := (130 : Int32)) ri_222_19 rfl (by decide) ?_
  refine rs_aload_n ri_222_22 rfl rfl ?_
  refine rs_gf (v := .int (M.2.1 163 18)) ri_222_23 rfl (by decide) (ro_kf (kd_163 hL)) rfl rfl ?_
  refine rs_iadd (r := ((130 : Int32) + (M.2.1 163 18))) ri_222_26 rfl rfl ?_
  refine rs_iload_n ri_222_27 rfl rfl ?_
  obtain ⟨q1, hp⟩ := hp
  refine rs_iast (j := ((130 : Int32) + (M.2.1 163 18)).toNatClampNeg) ri_222_28 rfl (by decide) (kd_175 hL) q1 rfl ?_
  refine rs_aload_n ri_222_29 rfl rfl ?_
  refine rs_dup ri_222_30 rfl rfl ?_
  refine rs_gf (v := .int (M.2.1 163 18)) ri_222_31 rfl (by decide) (ro_kf (kd_163 hL)) rfl rfl ?_
  refine rs_iconst (v := (1 : Int32)) ri_222_34 rfl (by decide) ?_
  refine rs_iadd (r := ((M.2.1 163 18) + (1 : Int32))) ri_222_35 rfl rfl ?_
  refine rs_pf (M2 := (ro_sI (ro_sI (ro_sI M 174 (((130 : Int32) + (M.2.1 163 18)).toNatClampNeg) (vp_nar .byte (v1.toInt8.toInt32))) 175 (((130 : Int32) + (M.2.1 163 18)).toNatClampNeg) v2) 163 18 ((M.2.1 163 18) + (1 : Int32)))) ri_222_36 rfl (by decide) (ro_kf (kd_163 hL)) (fun h => absurd h (by decide)) (fun f h => h) ?_
  refine rs_ret ri_222_39 rm_222.2.1 (by decide) ?_
  exact ⟨by rfl, by rfl⟩
theorem xl_222 {M : ro_Mm} {v1 : Int32} {v2 : Int32} (hL : ro_lay M) (hp : xp_222 M v1 v2) : ro_lay (xm_222 M v1 v2) := by
  unfold xp_222 at hp
  unfold xm_222
  obtain ⟨q0, hp⟩ := hp
  obtain ⟨q1, hp⟩ := hp
  exact hL
theorem xwI_222 {M : ro_Mm} {v1 : Int32} {v2 : Int32} {c j : Nat} (n0 : c ≠ 174) (n1 : c ≠ 175) (n2 : c ≠ 163) : (xm_222 M v1 v2).2.1 c j = M.2.1 c j := by
  unfold xm_222
  first | done | exact ((((ro_sI_ne n2)).trans (ro_sI_ne n1)).trans (ro_sI_ne n0))
theorem xwJ_222 {M : ro_Mm} {v1 : Int32} {v2 : Int32} {c j : Nat} : (xm_222 M v1 v2).2.2.1 c j = M.2.2.1 c j := by
  unfold xm_222
  first | done | exact rfl
/-- RefusedOnceModel.wrong()V -/
def xm_224 (M : ro_Mm) : ro_Mm := (if (0 : Int32) ≤ (M.2.1 163 16) then M else (ro_sI M 163 16 (M.2.1 163 15)))
theorem xs_224 {X : ro_Sx} {M : ro_Mm} (hL : ro_lay M) : ro_cwp X 1 224 [.ref 163] M (fun v M2 => v = none ∧ M2 = xm_224 M) := by
  refine rs_begin (lv0 := [(0, .ref 163)]) (by decide) rfl (by rw [rm_224.1]; exact Nat.le_of_ble_eq_true rfl) rfl ?_
  refine rs_aload_n ri_224_0 rfl rfl ?_
  refine rs_gf (v := .int (M.2.1 163 16)) ri_224_1 rfl (by decide) (ro_kf (kd_163 hL)) rfl rfl ?_
  refine rs_if_ge (t := 15) ri_224_4 rfl rfl (fun h1 => ?_) (fun h1 => ?_)
  · skip
    refine rs_ret ri_224_15 rm_224.2.1 (by decide) ?_
    exact ⟨by rfl, by unfold xm_224; first | (simp only [if_pos h1]; done) | rfl⟩
  · skip
    refine rs_aload_n ri_224_7 rfl rfl ?_
    refine rs_aload_n ri_224_8 rfl rfl ?_
    refine rs_gf (v := .int (M.2.1 163 15)) ri_224_9 rfl (by decide) (ro_kf (kd_163 hL)) rfl rfl ?_
    refine rs_pf (M2 := (ro_sI M 163 16 (M.2.1 163 15))) ri_224_12 rfl (by decide) (ro_kf (kd_163 hL)) (fun h => absurd h (by decide)) (fun f h => h) ?_
    refine rs_ret ri_224_15 rm_224.2.1 (by decide) ?_
    exact ⟨by rfl, by unfold xm_224; first | (simp only [if_neg h1]; done) | rfl⟩
theorem xl_224 {M : ro_Mm} (hL : ro_lay M) : ro_lay (xm_224 M) := by
  unfold xm_224
  by_cases hz : (0 : Int32) ≤ (M.2.1 163 16)
  · skip
    rw [if_pos hz]
    exact hL
  · skip
    rw [if_neg hz]
    exact hL
theorem xwI_224 {M : ro_Mm} {c j : Nat} (n0 : c ≠ 163) : (xm_224 M).2.1 c j = M.2.1 c j := by
  unfold xm_224
  by_cases hz : (0 : Int32) ≤ (M.2.1 163 16)
  · rw [if_pos hz]
    first | done | exact rfl
  · rw [if_neg hz]
    first | done | exact (ro_sI_ne n0)
theorem xwJ_224 {M : ro_Mm} {c j : Nat} : (xm_224 M).2.2.1 c j = M.2.2.1 c j := by
  unfold xm_224
  by_cases hz : (0 : Int32) ≤ (M.2.1 163 16)
  · rw [if_pos hz]
    first | done | exact rfl
  · rw [if_neg hz]
    first | done | exact rfl
/-- RefusedOnceModel.areTwo(I)Z -/
def xf_227 (M : ro_Mm) (v1 : Int32) : Bool := (if v1 < (0 : Int32) then false else (if (xf_204 M (v1 / (10 : Int32))) then (if (xf_204 M (ro_irem v1 (10 : Int32))) then (if (v1 / (10 : Int32)) = (ro_irem v1 (10 : Int32)) then false else true) else false) else false))
theorem xs_227 {X : ro_Sx} {M : ro_Mm} {v1 : Int32} (hL : ro_lay M) : ro_cwp X 3 227 [.ref 163, .int v1] M (fun v M2 => v = some (.int (ro_b (xf_227 M v1))) ∧ M2 = M) := by
  refine rs_begin (lv0 := [(0, .ref 163), (1, .int v1)]) (by decide) rfl (by rw [rm_227.1]; exact Nat.le_of_ble_eq_true rfl) rfl ?_
  refine rs_iload_n ri_227_0 rfl rfl ?_
  refine rs_if_lt (t := 41) ri_227_1 rfl rfl (fun h1 => ?_) (fun h1 => ?_)
  · skip
    refine rs_iconst (v := (0 : Int32)) ri_227_41 rfl (by decide) ?_
    refine rs_zret (p := false) ri_227_42 rm_227.2.1 (by decide) rfl ?_
    exact ⟨by unfold xf_227; first | (simp only [if_pos h1]; done) | rfl, by rfl⟩
  · skip
    refine rs_aload_n ri_227_4 rfl rfl ?_
    refine rs_iload_n ri_227_5 rfl rfl ?_
    refine rs_bipush (v := (10 : Int32)) ri_227_6 rfl (by decide) ?_
    refine rs_idiv (r := (v1 / (10 : Int32))) ri_227_8 rfl (by decide) rfl ?_
    refine rs_virt (As := [.int (v1 / (10 : Int32))]) (r := []) ri_227_9 rfl (by decide) rm_204.2.2.2 rm_204.2.2.1 rfl rfl rfl (by decide) (ro_kf (kd_163 hL)) (Nat.le_of_ble_eq_true rfl) (by decide) (by decide) (xs_204 (X := X) hL) ?_
    rintro _ _ ⟨e1, e2⟩
    rw [e1, e2]
    show ro_w X _ 227 _ 12 [(0, .ref 163), (1, .int v1)] [.int (ro_b (xf_204 M (v1 / (10 : Int32))))] M (0, 0)
    refine rs_ifeq_c (t := 41) ri_227_12 rfl rfl (fun h2 => ?_) (fun h2 => ?_)
    · skip
      refine rs_iconst (v := (0 : Int32)) ri_227_41 rfl (by decide) ?_
      refine rs_zret (p := false) ri_227_42 rm_227.2.1 (by decide) rfl ?_
      exact ⟨by unfold xf_227; first | (simp only [if_neg h1, if_neg h2]; done) | rfl, by rfl⟩
    · skip
      refine rs_aload_n ri_227_15 rfl rfl ?_
      refine rs_iload_n ri_227_16 rfl rfl ?_
      refine rs_bipush (v := (10 : Int32)) ri_227_17 rfl (by decide) ?_
      refine rs_irem (r := (ro_irem v1 (10 : Int32))) ri_227_19 rfl (by decide) rfl ?_
      refine rs_virt (As := [.int (ro_irem v1 (10 : Int32))]) (r := []) ri_227_20 rfl (by decide) rm_204.2.2.2 rm_204.2.2.1 rfl rfl rfl (by decide) (ro_kf (kd_163 hL)) (Nat.le_of_ble_eq_true rfl) (by decide) (by decide) (xs_204 (X := X) hL) ?_
      rintro _ _ ⟨e1, e2⟩
      rw [e1, e2]
      show ro_w X _ 227 _ 23 [(0, .ref 163), (1, .int v1)] [.int (ro_b (xf_204 M (ro_irem v1 (10 : Int32))))] M (0, 0)
      refine rs_ifeq_c (t := 41) ri_227_23 rfl rfl (fun h3 => ?_) (fun h3 => ?_)
      · skip
        refine rs_iconst (v := (0 : Int32)) ri_227_41 rfl (by decide) ?_
        refine rs_zret (p := false) ri_227_42 rm_227.2.1 (by decide) rfl ?_
        exact ⟨by unfold xf_227; first | (simp only [if_neg h1, if_pos h2, if_neg h3]; done) | rfl, by rfl⟩
      · skip
        refine rs_iload_n ri_227_26 rfl rfl ?_
        refine rs_bipush (v := (10 : Int32)) ri_227_27 rfl (by decide) ?_
        refine rs_idiv (r := (v1 / (10 : Int32))) ri_227_29 rfl (by decide) rfl ?_
        refine rs_iload_n ri_227_30 rfl rfl ?_
        refine rs_bipush (v := (10 : Int32)) ri_227_31 rfl (by decide) ?_
        refine rs_irem (r := (ro_irem v1 (10 : Int32))) ri_227_33 rfl (by decide) rfl ?_
        refine rs_icmp_eq (t := 41) ri_227_34 rfl rfl (fun h4 => ?_) (fun h4 => ?_)
        · skip
          refine rs_iconst (v := (0 : Int32)) ri_227_41 rfl (by decide) ?_
          refine rs_zret (p := false) ri_227_42 rm_227.2.1 (by decide) rfl ?_
          exact ⟨by unfold xf_227; first | (simp only [if_neg h1, if_pos h2, if_pos h3, if_pos h4]; done) | rfl, by rfl⟩
        · skip
          refine rs_iconst (v := (1 : Int32)) ri_227_37 rfl (by decide) ?_
          refine rs_goto (t := 42) ri_227_38 rfl ?_
          refine rs_zret (p := true) ri_227_42 rm_227.2.1 (by decide) rfl ?_
          exact ⟨by unfold xf_227; first | (simp only [if_neg h1, if_pos h2, if_pos h3, if_neg h4]; done) | rfl, by rfl⟩
/-- RefusedOnceModel.twoOf(III)I -/
def xf_232 (M : ro_Mm) (v0 : Int32) (v1 : Int32) (v2 : Int32) : Int32 := (if v0 = (37 : Int32) then (if v2 = (0 : Int32) then (0 : Int32) else (if v2 = (-1 : Int32) then (0 : Int32) else (ro_irem v1 v2))) else (if v0 = (38 : Int32) then (if v1 = (0 : Int32) then (0 : Int32) else (if v2 = (0 : Int32) then (0 : Int32) else (1 : Int32))) else (if v0 = (42 : Int32) then (v1 * v2) else (if v0 = (43 : Int32) then (v1 + v2) else (if v0 = (45 : Int32) then (v1 - v2) else (if v0 = (47 : Int32) then (if v2 = (0 : Int32) then (0 : Int32) else (if v2 = (-1 : Int32) then (-v1) else (v1 / v2))) else (if v0 = (60 : Int32) then (if v2 ≤ v1 then (0 : Int32) else (1 : Int32)) else (if v0 = (61 : Int32) then (if v1 = v2 then (1 : Int32) else (0 : Int32)) else (if v0 = (62 : Int32) then (if v1 ≤ v2 then (0 : Int32) else (1 : Int32)) else (if v1 = (0 : Int32) then (if v2 = (0 : Int32) then (0 : Int32) else (1 : Int32)) else (1 : Int32)))))))))))
theorem xs_232 {X : ro_Sx} {M : ro_Mm} {v0 : Int32} {v1 : Int32} {v2 : Int32} (hL : ro_lay M) : ro_cwp X 1 232 [.int v0, .int v1, .int v2] M (fun v M2 => v = some (.int (xf_232 M v0 v1 v2)) ∧ M2 = M) := by
  refine rs_begin (lv0 := [(0, .int v0), (1, .int v1), (2, .int v2)]) (by decide) rfl (by rw [rm_232.1]; exact Nat.le_of_ble_eq_true rfl) rfl ?_
  refine rs_iload_n ri_232_0 rfl rfl ?_
  by_cases h1 : v0 = (37 : Int32)
  · skip
    refine rs_swIn (o := 153) (t := 154) ri_232_1 (by rw [h1]; first | done | decide) (by rw [h1]; first | done | decide) (by rw [h1]; first | done | rfl) rfl ?_
    refine rs_iload_n ri_232_154 rfl rfl ?_
    refine rs_if_eq (t := 163) ri_232_155 rfl rfl (fun h2 => ?_) (fun h2 => ?_)
    · skip
      refine rs_iconst (v := (0 : Int32)) ri_232_163 rfl (by decide) ?_
      refine rs_goto (t := 170) ri_232_164 rfl ?_
      refine rs_iret ri_232_170 rm_232.2.1 (by decide) ?_
      exact ⟨by unfold xf_232; first | (simp only [if_pos h1, if_pos h2]; done) | rfl, by rfl⟩
    · skip
      refine rs_iload_n ri_232_158 rfl rfl ?_
      refine rs_iconst (v := (-1 : Int32)) ri_232_159 rfl (by decide) ?_
      refine rs_icmp_ne (t := 167) ri_232_160 rfl rfl (fun h3 => ?_) (fun h3 => ?_)
      · skip
        refine rs_iload_n ri_232_167 rfl rfl ?_
        refine rs_iload_n ri_232_168 rfl rfl ?_
        refine rs_irem (r := (ro_irem v1 v2)) ri_232_169 rfl h2 rfl ?_
        refine rs_iret ri_232_170 rm_232.2.1 (by decide) ?_
        exact ⟨by unfold xf_232; first | (simp only [if_pos h1, if_neg h2, if_neg h3]; done) | rfl, by rfl⟩
      · skip
        refine rs_iconst (v := (0 : Int32)) ri_232_163 rfl (by decide) ?_
        refine rs_goto (t := 170) ri_232_164 rfl ?_
        refine rs_iret ri_232_170 rm_232.2.1 (by decide) ?_
        exact ⟨by unfold xf_232; first | (simp only [if_pos h1, if_neg h2, if_pos h3]; done) | rfl, by rfl⟩
  · skip
    by_cases h4 : v0 = (38 : Int32)
    · skip
      refine rs_swIn (o := 203) (t := 204) ri_232_1 (by rw [h4]; first | done | decide) (by rw [h4]; first | done | decide) (by rw [h4]; first | done | rfl) rfl ?_
      refine rs_iload_n ri_232_204 rfl rfl ?_
      refine rs_if_eq (t := 216) ri_232_205 rfl rfl (fun h5 => ?_) (fun h5 => ?_)
      · skip
        refine rs_iconst (v := (0 : Int32)) ri_232_216 rfl (by decide) ?_
        refine rs_iret ri_232_217 rm_232.2.1 (by decide) ?_
        exact ⟨by unfold xf_232; first | (simp only [if_neg h1, if_pos h4, if_pos h5]; done) | rfl, by rfl⟩
      · skip
        refine rs_iload_n ri_232_208 rfl rfl ?_
        refine rs_if_eq (t := 216) ri_232_209 rfl rfl (fun h6 => ?_) (fun h6 => ?_)
        · skip
          refine rs_iconst (v := (0 : Int32)) ri_232_216 rfl (by decide) ?_
          refine rs_iret ri_232_217 rm_232.2.1 (by decide) ?_
          exact ⟨by unfold xf_232; first | (simp only [if_neg h1, if_pos h4, if_neg h5, if_pos h6]; done) | rfl, by rfl⟩
        · skip
          refine rs_iconst (v := (1 : Int32)) ri_232_212 rfl (by decide) ?_
          refine rs_goto (t := 217) ri_232_213 rfl ?_
          refine rs_iret ri_232_217 rm_232.2.1 (by decide) ?_
          exact ⟨by unfold xf_232; first | (simp only [if_neg h1, if_pos h4, if_neg h5, if_neg h6]; done) | rfl, by rfl⟩
    · skip
      by_cases h7 : v0 = (42 : Int32)
      · skip
        refine rs_swIn (o := 127) (t := 128) ri_232_1 (by rw [h7]; first | done | decide) (by rw [h7]; first | done | decide) (by rw [h7]; first | done | rfl) rfl ?_
        refine rs_iload_n ri_232_128 rfl rfl ?_
        refine rs_iload_n ri_232_129 rfl rfl ?_
        refine rs_imul (r := (v1 * v2)) ri_232_130 rfl rfl ?_
        refine rs_iret ri_232_131 rm_232.2.1 (by decide) ?_
        exact ⟨by unfold xf_232; first | (simp only [if_neg h1, if_neg h4, if_pos h7]; done) | rfl, by rfl⟩
      · skip
        by_cases h8 : v0 = (43 : Int32)
        · skip
          refine rs_swIn (o := 119) (t := 120) ri_232_1 (by rw [h8]; first | done | decide) (by rw [h8]; first | done | decide) (by rw [h8]; first | done | rfl) rfl ?_
          refine rs_iload_n ri_232_120 rfl rfl ?_
          refine rs_iload_n ri_232_121 rfl rfl ?_
          refine rs_iadd (r := (v1 + v2)) ri_232_122 rfl rfl ?_
          refine rs_iret ri_232_123 rm_232.2.1 (by decide) ?_
          exact ⟨by unfold xf_232; first | (simp only [if_neg h1, if_neg h4, if_neg h7, if_pos h8]; done) | rfl, by rfl⟩
        · skip
          by_cases h9 : v0 = (45 : Int32)
          · skip
            refine rs_swIn (o := 123) (t := 124) ri_232_1 (by rw [h9]; first | done | decide) (by rw [h9]; first | done | decide) (by rw [h9]; first | done | rfl) rfl ?_
            refine rs_iload_n ri_232_124 rfl rfl ?_
            refine rs_iload_n ri_232_125 rfl rfl ?_
            refine rs_isub (r := (v1 - v2)) ri_232_126 rfl rfl ?_
            refine rs_iret ri_232_127 rm_232.2.1 (by decide) ?_
            exact ⟨by unfold xf_232; first | (simp only [if_neg h1, if_neg h4, if_neg h7, if_neg h8, if_pos h9]; done) | rfl, by rfl⟩
          · skip
            by_cases h10 : v0 = (47 : Int32)
            · skip
              refine rs_swIn (o := 131) (t := 132) ri_232_1 (by rw [h10]; first | done | decide) (by rw [h10]; first | done | decide) (by rw [h10]; first | done | rfl) rfl ?_
              refine rs_iload_n ri_232_132 rfl rfl ?_
              refine rs_if_ne (t := 140) ri_232_133 rfl rfl (fun h11 => ?_) (fun h11 => ?_)
              · skip
                refine rs_iload_n ri_232_140 rfl rfl ?_
                refine rs_iconst (v := (-1 : Int32)) ri_232_141 rfl (by decide) ?_
                refine rs_icmp_ne (t := 150) ri_232_142 rfl rfl (fun h12 => ?_) (fun h12 => ?_)
                · skip
                  refine rs_iload_n ri_232_150 rfl rfl ?_
                  refine rs_iload_n ri_232_151 rfl rfl ?_
                  refine rs_idiv (r := (v1 / v2)) ri_232_152 rfl h11 rfl ?_
                  refine rs_iret ri_232_153 rm_232.2.1 (by decide) ?_
                  exact ⟨by unfold xf_232; first | (simp only [if_neg h1, if_neg h4, if_neg h7, if_neg h8, if_neg h9, if_pos h10, if_neg h11, if_neg h12]; done) | rfl, by rfl⟩
                · skip
                  refine rs_iload_n ri_232_145 rfl rfl ?_
                  refine rs_ineg (r := (-v1)) ri_232_146 rfl rfl ?_
                  refine rs_goto (t := 153) ri_232_147 rfl ?_
                  refine rs_iret ri_232_153 rm_232.2.1 (by decide) ?_
                  exact ⟨by unfold xf_232; first | (simp only [if_neg h1, if_neg h4, if_neg h7, if_neg h8, if_neg h9, if_pos h10, if_neg h11, if_pos h12]; done) | rfl, by rfl⟩
              · skip
                refine rs_iconst (v := (0 : Int32)) ri_232_136 rfl (by decide) ?_
                refine rs_goto (t := 153) ri_232_137 rfl ?_
                refine rs_iret ri_232_153 rm_232.2.1 (by decide) ?_
                exact ⟨by unfold xf_232; first | (simp only [if_neg h1, if_neg h4, if_neg h7, if_neg h8, if_neg h9, if_pos h10, if_pos h11]; done) | rfl, by rfl⟩
            · skip
              by_cases h13 : v0 = (60 : Int32)
              · skip
                refine rs_swIn (o := 170) (t := 171) ri_232_1 (by rw [h13]; first | done | decide) (by rw [h13]; first | done | decide) (by rw [h13]; first | done | rfl) rfl ?_
                refine rs_iload_n ri_232_171 rfl rfl ?_
                refine rs_iload_n ri_232_172 rfl rfl ?_
                refine rs_icmp_ge (t := 180) ri_232_173 rfl rfl (fun h14 => ?_) (fun h14 => ?_)
                · skip
                  refine rs_iconst (v := (0 : Int32)) ri_232_180 rfl (by decide) ?_
                  refine rs_iret ri_232_181 rm_232.2.1 (by decide) ?_
                  exact ⟨by unfold xf_232; first | (simp only [if_neg h1, if_neg h4, if_neg h7, if_neg h8, if_neg h9, if_neg h10, if_pos h13, if_pos h14]; done) | rfl, by rfl⟩
                · skip
                  refine rs_iconst (v := (1 : Int32)) ri_232_176 rfl (by decide) ?_
                  refine rs_goto (t := 181) ri_232_177 rfl ?_
                  refine rs_iret ri_232_181 rm_232.2.1 (by decide) ?_
                  exact ⟨by unfold xf_232; first | (simp only [if_neg h1, if_neg h4, if_neg h7, if_neg h8, if_neg h9, if_neg h10, if_pos h13, if_neg h14]; done) | rfl, by rfl⟩
              · skip
                by_cases h15 : v0 = (61 : Int32)
                · skip
                  refine rs_swIn (o := 181) (t := 182) ri_232_1 (by rw [h15]; first | done | decide) (by rw [h15]; first | done | decide) (by rw [h15]; first | done | rfl) rfl ?_
                  refine rs_iload_n ri_232_182 rfl rfl ?_
                  refine rs_iload_n ri_232_183 rfl rfl ?_
                  refine rs_icmp_ne (t := 191) ri_232_184 rfl rfl (fun h16 => ?_) (fun h16 => ?_)
                  · skip
                    refine rs_iconst (v := (0 : Int32)) ri_232_191 rfl (by decide) ?_
                    refine rs_iret ri_232_192 rm_232.2.1 (by decide) ?_
                    exact ⟨by unfold xf_232; first | (simp only [if_neg h1, if_neg h4, if_neg h7, if_neg h8, if_neg h9, if_neg h10, if_neg h13, if_pos h15, if_neg h16]; done) | rfl, by rfl⟩
                  · skip
                    refine rs_iconst (v := (1 : Int32)) ri_232_187 rfl (by decide) ?_
                    refine rs_goto (t := 192) ri_232_188 rfl ?_
                    refine rs_iret ri_232_192 rm_232.2.1 (by decide) ?_
                    exact ⟨by unfold xf_232; first | (simp only [if_neg h1, if_neg h4, if_neg h7, if_neg h8, if_neg h9, if_neg h10, if_neg h13, if_pos h15, if_pos h16]; done) | rfl, by rfl⟩
                · skip
                  by_cases h17 : v0 = (62 : Int32)
                  · skip
                    refine rs_swIn (o := 192) (t := 193) ri_232_1 (by rw [h17]; first | done | decide) (by rw [h17]; first | done | decide) (by rw [h17]; first | done | rfl) rfl ?_
                    refine rs_iload_n ri_232_193 rfl rfl ?_
                    refine rs_iload_n ri_232_194 rfl rfl ?_
                    refine rs_icmp_le (t := 202) ri_232_195 rfl rfl (fun h18 => ?_) (fun h18 => ?_)
                    · skip
                      refine rs_iconst (v := (0 : Int32)) ri_232_202 rfl (by decide) ?_
                      refine rs_iret ri_232_203 rm_232.2.1 (by decide) ?_
                      exact ⟨by unfold xf_232; first | (simp only [if_neg h1, if_neg h4, if_neg h7, if_neg h8, if_neg h9, if_neg h10, if_neg h13, if_neg h15, if_pos h17, if_pos h18]; done) | rfl, by rfl⟩
                    · skip
                      refine rs_iconst (v := (1 : Int32)) ri_232_198 rfl (by decide) ?_
                      refine rs_goto (t := 203) ri_232_199 rfl ?_
                      refine rs_iret ri_232_203 rm_232.2.1 (by decide) ?_
                      exact ⟨by unfold xf_232; first | (simp only [if_neg h1, if_neg h4, if_neg h7, if_neg h8, if_neg h9, if_neg h10, if_neg h13, if_neg h15, if_pos h17, if_neg h18]; done) | rfl, by rfl⟩
                  · skip
                    refine rs_swDef (t := 218) ri_232_1 (fun z => by have g0 := ro_ne_i (z := 37) h1 rfl; have g1 := ro_ne_i (z := 38) h4 rfl; have g2 := ro_ne_i (z := 42) h7 rfl; have g3 := ro_ne_i (z := 43) h8 rfl; have g4 := ro_ne_i (z := 45) h9 rfl; have g5 := ro_ne_i (z := 47) h10 rfl; have g6 := ro_ne_i (z := 60) h13 rfl; have g7 := ro_ne_i (z := 61) h15 rfl; have g8 := ro_ne_i (z := 62) h17 rfl; rcases (show v0.toInt = 39 ∨ v0.toInt = 40 ∨ v0.toInt = 41 ∨ v0.toInt = 44 ∨ v0.toInt = 46 ∨ v0.toInt = 48 ∨ v0.toInt = 49 ∨ v0.toInt = 50 ∨ v0.toInt = 51 ∨ v0.toInt = 52 ∨ v0.toInt = 53 ∨ v0.toInt = 54 ∨ v0.toInt = 55 ∨ v0.toInt = 56 ∨ v0.toInt = 57 ∨ v0.toInt = 58 ∨ v0.toInt = 59 by omega) with g | g | g | g | g | g | g | g | g | g | g | g | g | g | g | g | g <;> rw [g] <;> rfl) rfl ?_
                    refine rs_iload_n ri_232_218 rfl rfl ?_
                    refine rs_if_ne (t := 226) ri_232_219 rfl rfl (fun h19 => ?_) (fun h19 => ?_)
                    · skip
                      refine rs_iconst (v := (1 : Int32)) ri_232_226 rfl (by decide) ?_
                      refine rs_goto (t := 231) ri_232_227 rfl ?_
                      refine rs_iret ri_232_231 rm_232.2.1 (by decide) ?_
                      exact ⟨by unfold xf_232; first | (simp only [if_neg h1, if_neg h4, if_neg h7, if_neg h8, if_neg h9, if_neg h10, if_neg h13, if_neg h15, if_neg h17, if_neg h19]; done) | rfl, by rfl⟩
                    · skip
                      refine rs_iload_n ri_232_222 rfl rfl ?_
                      refine rs_if_eq (t := 230) ri_232_223 rfl rfl (fun h20 => ?_) (fun h20 => ?_)
                      · skip
                        refine rs_iconst (v := (0 : Int32)) ri_232_230 rfl (by decide) ?_
                        refine rs_iret ri_232_231 rm_232.2.1 (by decide) ?_
                        exact ⟨by unfold xf_232; first | (simp only [if_neg h1, if_neg h4, if_neg h7, if_neg h8, if_neg h9, if_neg h10, if_neg h13, if_neg h15, if_neg h17, if_pos h19, if_pos h20]; done) | rfl, by rfl⟩
                      · skip
                        refine rs_iconst (v := (1 : Int32)) ri_232_226 rfl (by decide) ?_
                        refine rs_goto (t := 231) ri_232_227 rfl ?_
                        refine rs_iret ri_232_231 rm_232.2.1 (by decide) ?_
                        exact ⟨by unfold xf_232; first | (simp only [if_neg h1, if_neg h4, if_neg h7, if_neg h8, if_neg h9, if_neg h10, if_neg h13, if_neg h15, if_neg h17, if_pos h19, if_neg h20]; done) | rfl, by rfl⟩
/-- RefusedOnceModel.areMany(I)Z -/
def xf_234 (M : ro_Mm) (v0 : Int32) : Bool := (xf_195 M v0 (0 : Int32) (20 : Int32))
theorem xs_234 {X : ro_Sx} {M : ro_Mm} {v0 : Int32} (hL : ro_lay M) : ro_cwp X 2 234 [.int v0] M (fun v M2 => v = some (.int (ro_b (xf_234 M v0))) ∧ M2 = M) := by
  refine rs_begin (lv0 := [(0, .int v0)]) (by decide) rfl (by rw [rm_234.1]; exact Nat.le_of_ble_eq_true rfl) rfl ?_
  refine rs_iload_n ri_234_0 rfl rfl ?_
  refine rs_iconst (v := (0 : Int32)) ri_234_1 rfl (by decide) ?_
  refine rs_bipush (v := (20 : Int32)) ri_234_2 rfl (by decide) ?_
  refine rs_stat (As := [.int v0, .int (0 : Int32), .int (20 : Int32)]) (r := []) ri_234_4 rfl rm_195.2.2.2 rfl rfl rfl (Nat.le_of_ble_eq_true rfl) (by decide) (by decide) (xs_195 (X := X) hL) ?_
  rintro _ _ ⟨e1, e2⟩
  rw [e1, e2]
  show ro_w X _ 234 _ 7 [(0, .int v0)] [.int (ro_b (xf_195 M v0 (0 : Int32) (20 : Int32)))] M (0, 0)
  refine rs_zret (p := (xf_195 M v0 (0 : Int32) (20 : Int32))) ri_234_7 rm_234.2.1 (by decide) rfl ?_
  exact ⟨by rfl, by rfl⟩
/-- RefusedOnceModel.rowFault(I)I -/
def xf_235 (M : ro_Mm) (v1 : Int32) : Int32 := (if (M.2.1 190 (v1.toNatClampNeg)) = (-1 : Int32) then (-11 : Int32) else (if (M.2.1 190 (v1.toNatClampNeg)) = (-2 : Int32) then (0 : Int32) else (-12 : Int32)))
def xp_235 (M : ro_Mm) (v1 : Int32) : Prop := (vp_in v1 6 ∧ (((M.2.1 190 (v1.toNatClampNeg)) = (-1 : Int32) → True) ∧ (¬ ((M.2.1 190 (v1.toNatClampNeg)) = (-1 : Int32)) → (vp_in v1 6 ∧ True))))
theorem xs_235 {X : ro_Sx} {M : ro_Mm} {v1 : Int32} (hL : ro_lay M) (hp : xp_235 M v1) : ro_cwp X 1 235 [.ref 163, .int v1] M (fun v M2 => v = some (.int (xf_235 M v1)) ∧ M2 = M) := by
  refine rs_begin (lv0 := [(0, .ref 163), (1, .int v1)]) (by decide) rfl (by rw [rm_235.1]; exact Nat.le_of_ble_eq_true rfl) rfl ?_
  unfold xp_235 at hp
  refine rs_aload_n ri_235_0 rfl rfl ?_
  refine rs_gf (v := .ref 190) ri_235_1 rfl (by decide) (ro_kf (kd_163 hL)) rfl (rf_163_53 hL) ?_
  refine rs_iload_n ri_235_4 rfl rfl ?_
  obtain ⟨q0, hp⟩ := hp
  refine rs_iald (v := (M.2.1 190 (v1.toNatClampNeg))) ri_235_5 rfl (by decide) (kd_190 hL) q0 rfl ?_
  refine rs_iconst (v := (-1 : Int32)) ri_235_6 rfl (by decide) ?_
  refine rs_icmp_ne (t := 15) ri_235_7 rfl rfl (fun h2 => ?_) (fun h2 => ?_)
  · have hp := hp.2 h2
    refine rs_aload_n ri_235_15 rfl rfl ?_
    refine rs_gf (v := .ref 190) ri_235_16 rfl (by decide) (ro_kf (kd_163 hL)) rfl (rf_163_53 hL) ?_
    refine rs_iload_n ri_235_19 rfl rfl ?_
    obtain ⟨q2, hp⟩ := hp
    refine rs_iald (v := (M.2.1 190 (v1.toNatClampNeg))) ri_235_20 rfl (by decide) (kd_190 hL) q2 rfl ?_
    refine rs_bipush (v := (-2 : Int32)) ri_235_21 rfl (by decide) ?_
    refine rs_icmp_ne (t := 30) ri_235_23 rfl rfl (fun h4 => ?_) (fun h4 => ?_)
    · skip
      refine rs_bipush (v := (-12 : Int32)) ri_235_30 rfl (by decide) ?_
      refine rs_iret ri_235_32 rm_235.2.1 (by decide) ?_
      exact ⟨by unfold xf_235; first | (simp only [if_neg h2, if_neg h4]; done) | rfl, by rfl⟩
    · skip
      refine rs_iconst (v := (0 : Int32)) ri_235_26 rfl (by decide) ?_
      refine rs_goto (t := 32) ri_235_27 rfl ?_
      refine rs_iret ri_235_32 rm_235.2.1 (by decide) ?_
      exact ⟨by unfold xf_235; first | (simp only [if_neg h2, if_pos h4]; done) | rfl, by rfl⟩
  · have hp := hp.1 h2
    refine rs_bipush (v := (-11 : Int32)) ri_235_10 rfl (by decide) ?_
    refine rs_goto (t := 32) ri_235_12 rfl ?_
    refine rs_iret ri_235_32 rm_235.2.1 (by decide) ?_
    exact ⟨by unfold xf_235; first | (simp only [if_pos h2]; done) | rfl, by rfl⟩
/-- RefusedOnceModel.at(II)I -/
def xf_238 (M : ro_Mm) (v1 : Int32) (v2 : Int32) : Int32 := ((M.2.2.1 192 ((((60 : Int32) * v1) + v2).toNatClampNeg)).toInt32)
def xp_238 (M : ro_Mm) (v1 : Int32) (v2 : Int32) : Prop := (vp_in (((60 : Int32) * v1) + v2) 360 ∧ True)
theorem xs_238 {X : ro_Sx} {M : ro_Mm} {v1 : Int32} {v2 : Int32} (hL : ro_lay M) (hp : xp_238 M v1 v2) : ro_cwp X 1 238 [.ref 163, .int v1, .int v2] M (fun v M2 => v = some (.int (xf_238 M v1 v2)) ∧ M2 = M) := by
  refine rs_begin (lv0 := [(0, .ref 163), (1, .int v1), (2, .int v2)]) (by decide) rfl (by rw [rm_238.1]; exact Nat.le_of_ble_eq_true rfl) rfl ?_
  unfold xp_238 at hp
  refine rs_aload_n ri_238_0 rfl rfl ?_
  refine rs_gf (v := .ref 192) ri_238_1 rfl (by decide) (ro_kf (kd_163 hL)) rfl (rf_163_55 hL) ?_
  refine rs_bipush (v := (60 : Int32)) ri_238_4 rfl (by decide) ?_
  refine rs_iload_n ri_238_6 rfl rfl ?_
  refine rs_imul (r := ((60 : Int32) * v1)) ri_238_7 rfl rfl ?_
  refine rs_iload_n ri_238_8 rfl rfl ?_
  refine rs_iadd (r := (((60 : Int32) * v1) + v2)) ri_238_9 rfl rfl ?_
  obtain ⟨q0, hp⟩ := hp
  refine rs_lald (v := (M.2.2.1 192 ((((60 : Int32) * v1) + v2).toNatClampNeg))) ri_238_10 rfl (by decide) (kd_192 hL) q0 rfl ?_
  refine rs_l2i (r := ((M.2.2.1 192 ((((60 : Int32) * v1) + v2).toNatClampNeg)).toInt32)) ri_238_11 rfl rfl ?_
  refine rs_iret ri_238_12 rm_238.2.1 (by decide) ?_
  exact ⟨by rfl, by rfl⟩
/-- RefusedOnceModel.isOffer(I)Z -/
def xf_239 (M : ro_Mm) (v1 : Int32) : Bool := (if v1 < (0 : Int32) then false else (if (xf_204 M (v1 / (20 : Int32))) then (if (xf_204 M ((ro_irem v1 (20 : Int32)) / (2 : Int32))) then (if (v1 / (20 : Int32)) = ((ro_irem v1 (20 : Int32)) / (2 : Int32)) then false else true) else false) else false))
theorem xs_239 {X : ro_Sx} {M : ro_Mm} {v1 : Int32} (hL : ro_lay M) : ro_cwp X 3 239 [.ref 163, .int v1] M (fun v M2 => v = some (.int (ro_b (xf_239 M v1))) ∧ M2 = M) := by
  refine rs_begin (lv0 := [(0, .ref 163), (1, .int v1)]) (by decide) rfl (by rw [rm_239.1]; exact Nat.le_of_ble_eq_true rfl) rfl ?_
  refine rs_iload_n ri_239_0 rfl rfl ?_
  refine rs_if_lt (t := 45) ri_239_1 rfl rfl (fun h1 => ?_) (fun h1 => ?_)
  · skip
    refine rs_iconst (v := (0 : Int32)) ri_239_45 rfl (by decide) ?_
    refine rs_zret (p := false) ri_239_46 rm_239.2.1 (by decide) rfl ?_
    exact ⟨by unfold xf_239; first | (simp only [if_pos h1]; done) | rfl, by rfl⟩
  · skip
    refine rs_aload_n ri_239_4 rfl rfl ?_
    refine rs_iload_n ri_239_5 rfl rfl ?_
    refine rs_bipush (v := (20 : Int32)) ri_239_6 rfl (by decide) ?_
    refine rs_idiv (r := (v1 / (20 : Int32))) ri_239_8 rfl (by decide) rfl ?_
    refine rs_virt (As := [.int (v1 / (20 : Int32))]) (r := []) ri_239_9 rfl (by decide) rm_204.2.2.2 rm_204.2.2.1 rfl rfl rfl (by decide) (ro_kf (kd_163 hL)) (Nat.le_of_ble_eq_true rfl) (by decide) (by decide) (xs_204 (X := X) hL) ?_
    rintro _ _ ⟨e1, e2⟩
    rw [e1, e2]
    show ro_w X _ 239 _ 12 [(0, .ref 163), (1, .int v1)] [.int (ro_b (xf_204 M (v1 / (20 : Int32))))] M (0, 0)
    refine rs_ifeq_c (t := 45) ri_239_12 rfl rfl (fun h2 => ?_) (fun h2 => ?_)
    · skip
      refine rs_iconst (v := (0 : Int32)) ri_239_45 rfl (by decide) ?_
      refine rs_zret (p := false) ri_239_46 rm_239.2.1 (by decide) rfl ?_
      exact ⟨by unfold xf_239; first | (simp only [if_neg h1, if_neg h2]; done) | rfl, by rfl⟩
    · skip
      refine rs_aload_n ri_239_15 rfl rfl ?_
      refine rs_iload_n ri_239_16 rfl rfl ?_
      refine rs_bipush (v := (20 : Int32)) ri_239_17 rfl (by decide) ?_
      refine rs_irem (r := (ro_irem v1 (20 : Int32))) ri_239_19 rfl (by decide) rfl ?_
      refine rs_iconst (v := (2 : Int32)) ri_239_20 rfl (by decide) ?_
      refine rs_idiv (r := ((ro_irem v1 (20 : Int32)) / (2 : Int32))) ri_239_21 rfl (by decide) rfl ?_
      refine rs_virt (As := [.int ((ro_irem v1 (20 : Int32)) / (2 : Int32))]) (r := []) ri_239_22 rfl (by decide) rm_204.2.2.2 rm_204.2.2.1 rfl rfl rfl (by decide) (ro_kf (kd_163 hL)) (Nat.le_of_ble_eq_true rfl) (by decide) (by decide) (xs_204 (X := X) hL) ?_
      rintro _ _ ⟨e1, e2⟩
      rw [e1, e2]
      show ro_w X _ 239 _ 25 [(0, .ref 163), (1, .int v1)] [.int (ro_b (xf_204 M ((ro_irem v1 (20 : Int32)) / (2 : Int32))))] M (0, 0)
      refine rs_ifeq_c (t := 45) ri_239_25 rfl rfl (fun h3 => ?_) (fun h3 => ?_)
      · skip
        refine rs_iconst (v := (0 : Int32)) ri_239_45 rfl (by decide) ?_
        refine rs_zret (p := false) ri_239_46 rm_239.2.1 (by decide) rfl ?_
        exact ⟨by unfold xf_239; first | (simp only [if_neg h1, if_pos h2, if_neg h3]; done) | rfl, by rfl⟩
      · skip
        refine rs_iload_n ri_239_28 rfl rfl ?_
        refine rs_bipush (v := (20 : Int32)) ri_239_29 rfl (by decide) ?_
        refine rs_idiv (r := (v1 / (20 : Int32))) ri_239_31 rfl (by decide) rfl ?_
        refine rs_iload_n ri_239_32 rfl rfl ?_
        refine rs_bipush (v := (20 : Int32)) ri_239_33 rfl (by decide) ?_
        refine rs_irem (r := (ro_irem v1 (20 : Int32))) ri_239_35 rfl (by decide) rfl ?_
        refine rs_iconst (v := (2 : Int32)) ri_239_36 rfl (by decide) ?_
        refine rs_idiv (r := ((ro_irem v1 (20 : Int32)) / (2 : Int32))) ri_239_37 rfl (by decide) rfl ?_
        refine rs_icmp_eq (t := 45) ri_239_38 rfl rfl (fun h4 => ?_) (fun h4 => ?_)
        · skip
          refine rs_iconst (v := (0 : Int32)) ri_239_45 rfl (by decide) ?_
          refine rs_zret (p := false) ri_239_46 rm_239.2.1 (by decide) rfl ?_
          exact ⟨by unfold xf_239; first | (simp only [if_neg h1, if_pos h2, if_pos h3, if_pos h4]; done) | rfl, by rfl⟩
        · skip
          refine rs_iconst (v := (1 : Int32)) ri_239_41 rfl (by decide) ?_
          refine rs_goto (t := 46) ri_239_42 rfl ?_
          refine rs_zret (p := true) ri_239_46 rm_239.2.1 (by decide) rfl ?_
          exact ⟨by unfold xf_239; first | (simp only [if_neg h1, if_pos h2, if_pos h3, if_neg h4]; done) | rfl, by rfl⟩
/-- RefusedOnceModel.mayCut(II)Z -/
def xf_240 (M : ro_Mm) (v1 : Int32) (v2 : Int32) : Bool := (if (M.2.1 182 (v1.toNatClampNeg)) ≤ (0 : Int32) then false else (if (20 : Int32) ≤ (M.2.1 182 (v2.toNatClampNeg)) then false else true))
def xp_240 (M : ro_Mm) (v1 : Int32) (v2 : Int32) : Prop := (vp_in v1 6 ∧ (((M.2.1 182 (v1.toNatClampNeg)) ≤ (0 : Int32) → True) ∧ (¬ ((M.2.1 182 (v1.toNatClampNeg)) ≤ (0 : Int32)) → (vp_in v2 6 ∧ True))))
theorem xs_240 {X : ro_Sx} {M : ro_Mm} {v1 : Int32} {v2 : Int32} (hL : ro_lay M) (hp : xp_240 M v1 v2) : ro_cwp X 1 240 [.ref 163, .int v1, .int v2] M (fun v M2 => v = some (.int (ro_b (xf_240 M v1 v2))) ∧ M2 = M) := by
  refine rs_begin (lv0 := [(0, .ref 163), (1, .int v1), (2, .int v2)]) (by decide) rfl (by rw [rm_240.1]; exact Nat.le_of_ble_eq_true rfl) rfl ?_
  unfold xp_240 at hp
  refine rs_aload_n ri_240_0 rfl rfl ?_
  refine rs_gf (v := .ref 182) ri_240_1 rfl (by decide) (ro_kf (kd_163 hL)) rfl (rf_163_28 hL) ?_
  refine rs_iload_n ri_240_4 rfl rfl ?_
  obtain ⟨q0, hp⟩ := hp
  refine rs_iald (v := (M.2.1 182 (v1.toNatClampNeg))) ri_240_5 rfl (by decide) (kd_182 hL) q0 rfl ?_
  refine rs_if_le (t := 24) ri_240_6 rfl rfl (fun h2 => ?_) (fun h2 => ?_)
  · have hp := hp.1 h2
    refine rs_iconst (v := (0 : Int32)) ri_240_24 rfl (by decide) ?_
    refine rs_zret (p := false) ri_240_25 rm_240.2.1 (by decide) rfl ?_
    exact ⟨by unfold xf_240; first | (simp only [if_pos h2]; done) | rfl, by rfl⟩
  · have hp := hp.2 h2
    refine rs_aload_n ri_240_9 rfl rfl ?_
    refine rs_gf (v := .ref 182) ri_240_10 rfl (by decide) (ro_kf (kd_163 hL)) rfl (rf_163_28 hL) ?_
    refine rs_iload_n ri_240_13 rfl rfl ?_
    obtain ⟨q2, hp⟩ := hp
    refine rs_iald (v := (M.2.1 182 (v2.toNatClampNeg))) ri_240_14 rfl (by decide) (kd_182 hL) q2 rfl ?_
    refine rs_bipush (v := (20 : Int32)) ri_240_15 rfl (by decide) ?_
    refine rs_icmp_ge (t := 24) ri_240_17 rfl rfl (fun h4 => ?_) (fun h4 => ?_)
    · skip
      refine rs_iconst (v := (0 : Int32)) ri_240_24 rfl (by decide) ?_
      refine rs_zret (p := false) ri_240_25 rm_240.2.1 (by decide) rfl ?_
      exact ⟨by unfold xf_240; first | (simp only [if_neg h2, if_pos h4]; done) | rfl, by rfl⟩
    · skip
      refine rs_iconst (v := (1 : Int32)) ri_240_20 rfl (by decide) ?_
      refine rs_goto (t := 25) ri_240_21 rfl ?_
      refine rs_zret (p := true) ri_240_25 rm_240.2.1 (by decide) rfl ?_
      exact ⟨by unfold xf_240; first | (simp only [if_neg h2, if_neg h4]; done) | rfl, by rfl⟩
/-- RefusedOnceModel.mayWhole(II)Z -/
def xf_241 (M : ro_Mm) (v1 : Int32) (v2 : Int32) : Bool := (if (M.2.1 181 (v1.toNatClampNeg)) ≤ (0 : Int32) then false else (if (20 : Int32) ≤ (M.2.1 182 (v1.toNatClampNeg)) then false else (if (20 : Int32) ≤ (M.2.1 181 (v2.toNatClampNeg)) then false else true)))
def xp_241 (M : ro_Mm) (v1 : Int32) (v2 : Int32) : Prop := (vp_in v1 6 ∧ (((M.2.1 181 (v1.toNatClampNeg)) ≤ (0 : Int32) → True) ∧ (¬ ((M.2.1 181 (v1.toNatClampNeg)) ≤ (0 : Int32)) → (vp_in v1 6 ∧ (((20 : Int32) ≤ (M.2.1 182 (v1.toNatClampNeg)) → True) ∧ (¬ ((20 : Int32) ≤ (M.2.1 182 (v1.toNatClampNeg))) → (vp_in v2 6 ∧ True)))))))
theorem xs_241 {X : ro_Sx} {M : ro_Mm} {v1 : Int32} {v2 : Int32} (hL : ro_lay M) (hp : xp_241 M v1 v2) : ro_cwp X 1 241 [.ref 163, .int v1, .int v2] M (fun v M2 => v = some (.int (ro_b (xf_241 M v1 v2))) ∧ M2 = M) := by
  refine rs_begin (lv0 := [(0, .ref 163), (1, .int v1), (2, .int v2)]) (by decide) rfl (by rw [rm_241.1]; exact Nat.le_of_ble_eq_true rfl) rfl ?_
  unfold xp_241 at hp
  refine rs_aload_n ri_241_0 rfl rfl ?_
  refine rs_gf (v := .ref 181) ri_241_1 rfl (by decide) (ro_kf (kd_163 hL)) rfl (rf_163_27 hL) ?_
  refine rs_iload_n ri_241_4 rfl rfl ?_
  obtain ⟨q0, hp⟩ := hp
  refine rs_iald (v := (M.2.1 181 (v1.toNatClampNeg))) ri_241_5 rfl (by decide) (kd_181 hL) q0 rfl ?_
  refine rs_if_le (t := 35) ri_241_6 rfl rfl (fun h2 => ?_) (fun h2 => ?_)
  · have hp := hp.1 h2
    refine rs_iconst (v := (0 : Int32)) ri_241_35 rfl (by decide) ?_
    refine rs_zret (p := false) ri_241_36 rm_241.2.1 (by decide) rfl ?_
    exact ⟨by unfold xf_241; first | (simp only [if_pos h2]; done) | rfl, by rfl⟩
  · have hp := hp.2 h2
    refine rs_aload_n ri_241_9 rfl rfl ?_
    refine rs_gf (v := .ref 182) ri_241_10 rfl (by decide) (ro_kf (kd_163 hL)) rfl (rf_163_28 hL) ?_
    refine rs_iload_n ri_241_13 rfl rfl ?_
    obtain ⟨q2, hp⟩ := hp
    refine rs_iald (v := (M.2.1 182 (v1.toNatClampNeg))) ri_241_14 rfl (by decide) (kd_182 hL) q2 rfl ?_
    refine rs_bipush (v := (20 : Int32)) ri_241_15 rfl (by decide) ?_
    refine rs_icmp_ge (t := 35) ri_241_17 rfl rfl (fun h4 => ?_) (fun h4 => ?_)
    · have hp := hp.1 h4
      refine rs_iconst (v := (0 : Int32)) ri_241_35 rfl (by decide) ?_
      refine rs_zret (p := false) ri_241_36 rm_241.2.1 (by decide) rfl ?_
      exact ⟨by unfold xf_241; first | (simp only [if_neg h2, if_pos h4]; done) | rfl, by rfl⟩
    · have hp := hp.2 h4
      refine rs_aload_n ri_241_20 rfl rfl ?_
      refine rs_gf (v := .ref 181) ri_241_21 rfl (by decide) (ro_kf (kd_163 hL)) rfl (rf_163_27 hL) ?_
      refine rs_iload_n ri_241_24 rfl rfl ?_
      obtain ⟨q4, hp⟩ := hp
      refine rs_iald (v := (M.2.1 181 (v2.toNatClampNeg))) ri_241_25 rfl (by decide) (kd_181 hL) q4 rfl ?_
      refine rs_bipush (v := (20 : Int32)) ri_241_26 rfl (by decide) ?_
      refine rs_icmp_ge (t := 35) ri_241_28 rfl rfl (fun h6 => ?_) (fun h6 => ?_)
      · skip
        refine rs_iconst (v := (0 : Int32)) ri_241_35 rfl (by decide) ?_
        refine rs_zret (p := false) ri_241_36 rm_241.2.1 (by decide) rfl ?_
        exact ⟨by unfold xf_241; first | (simp only [if_neg h2, if_neg h4, if_pos h6]; done) | rfl, by rfl⟩
      · skip
        refine rs_iconst (v := (1 : Int32)) ri_241_31 rfl (by decide) ?_
        refine rs_goto (t := 36) ri_241_32 rfl ?_
        refine rs_zret (p := true) ri_241_36 rm_241.2.1 (by decide) rfl ?_
        exact ⟨by unfold xf_241; first | (simp only [if_neg h2, if_neg h4, if_neg h6]; done) | rfl, by rfl⟩
/-- RefusedOnceModel.goCut(II)V -/
def xm_242 (M : ro_Mm) (v1 : Int32) (v2 : Int32) : ro_Mm := (ro_sI (ro_sI M 182 (v1.toNatClampNeg) ((M.2.1 182 (v1.toNatClampNeg)) - (1 : Int32))) 182 (v2.toNatClampNeg) (((ro_sI M 182 (v1.toNatClampNeg) ((M.2.1 182 (v1.toNatClampNeg)) - (1 : Int32))).2.1 182 (v2.toNatClampNeg)) + (1 : Int32)))
def xp_242 (M : ro_Mm) (v1 : Int32) (v2 : Int32) : Prop := (vp_in v1 6 ∧ (vp_in v1 6 ∧ (vp_in v2 6 ∧ (vp_in v2 6 ∧ True))))
theorem xs_242 {X : ro_Sx} {M : ro_Mm} {v1 : Int32} {v2 : Int32} (hL : ro_lay M) (hp : xp_242 M v1 v2) : ro_cwp X 1 242 [.ref 163, .int v1, .int v2] M (fun v M2 => v = none ∧ M2 = xm_242 M v1 v2) := by
  refine rs_begin (lv0 := [(0, .ref 163), (1, .int v1), (2, .int v2)]) (by decide) rfl (by rw [rm_242.1]; exact Nat.le_of_ble_eq_true rfl) rfl ?_
  unfold xp_242 at hp
  refine rs_aload_n ri_242_0 rfl rfl ?_
  refine rs_gf (v := .ref 182) ri_242_1 rfl (by decide) (ro_kf (kd_163 hL)) rfl (rf_163_28 hL) ?_
  refine rs_iload_n ri_242_4 rfl rfl ?_
  refine rs_dup2 ri_242_5 rfl rfl rfl ?_
  obtain ⟨q0, hp⟩ := hp
  refine rs_iald (v := (M.2.1 182 (v1.toNatClampNeg))) ri_242_6 rfl (by decide) (kd_182 hL) q0 rfl ?_
  refine rs_iconst (v := (1 : Int32)) ri_242_7 rfl (by decide) ?_
  refine rs_isub (r := ((M.2.1 182 (v1.toNatClampNeg)) - (1 : Int32))) ri_242_8 rfl rfl ?_
  obtain ⟨q1, hp⟩ := hp
  refine rs_iast (j := v1.toNatClampNeg) ri_242_9 rfl (by decide) (kd_182 hL) q1 rfl ?_
  refine rs_aload_n ri_242_10 rfl rfl ?_
  refine rs_gf (v := .ref 182) ri_242_11 rfl (by decide) (ro_kf (kd_163 hL)) rfl (rf_163_28 hL) ?_
  refine rs_iload_n ri_242_14 rfl rfl ?_
  refine rs_dup2 ri_242_15 rfl rfl rfl ?_
  obtain ⟨q2, hp⟩ := hp
  refine rs_iald (v := ((ro_sI M 182 (v1.toNatClampNeg) ((M.2.1 182 (v1.toNatClampNeg)) - (1 : Int32))).2.1 182 (v2.toNatClampNeg))) ri_242_16 rfl (by decide) (kd_182 hL) q2 rfl ?_
  refine rs_iconst (v := (1 : Int32)) ri_242_17 rfl (by decide) ?_
  refine rs_iadd (r := (((ro_sI M 182 (v1.toNatClampNeg) ((M.2.1 182 (v1.toNatClampNeg)) - (1 : Int32))).2.1 182 (v2.toNatClampNeg)) + (1 : Int32))) ri_242_18 rfl rfl ?_
  obtain ⟨q3, hp⟩ := hp
  refine rs_iast (j := v2.toNatClampNeg) ri_242_19 rfl (by decide) (kd_182 hL) q3 rfl ?_
  refine rs_ret ri_242_20 rm_242.2.1 (by decide) ?_
  exact ⟨by rfl, by rfl⟩
theorem xl_242 {M : ro_Mm} {v1 : Int32} {v2 : Int32} (hL : ro_lay M) (hp : xp_242 M v1 v2) : ro_lay (xm_242 M v1 v2) := by
  unfold xp_242 at hp
  unfold xm_242
  obtain ⟨q0, hp⟩ := hp
  obtain ⟨q1, hp⟩ := hp
  obtain ⟨q2, hp⟩ := hp
  obtain ⟨q3, hp⟩ := hp
  exact hL
theorem xwI_242 {M : ro_Mm} {v1 : Int32} {v2 : Int32} {c j : Nat} (n0 : c ≠ 182) : (xm_242 M v1 v2).2.1 c j = M.2.1 c j := by
  unfold xm_242
  first | done | exact (((ro_sI_ne n0)).trans (ro_sI_ne n0))
theorem xwJ_242 {M : ro_Mm} {v1 : Int32} {v2 : Int32} {c j : Nat} : (xm_242 M v1 v2).2.2.1 c j = M.2.2.1 c j := by
  unfold xm_242
  first | done | exact rfl
/-- RefusedOnceModel.notches(I)V -/
def xm_244 (M : ro_Mm) (v1 : Int32) : ro_Mm := (ro_sI (ro_sI M 181 (v1.toNatClampNeg) ((M.2.1 181 (v1.toNatClampNeg)) - (1 : Int32))) 182 (v1.toNatClampNeg) ((M.2.1 182 (v1.toNatClampNeg)) + (1 : Int32)))
def xp_244 (M : ro_Mm) (v1 : Int32) : Prop := (vp_in v1 6 ∧ (vp_in v1 6 ∧ (vp_in v1 6 ∧ (vp_in v1 6 ∧ True))))
theorem xs_244 {X : ro_Sx} {M : ro_Mm} {v1 : Int32} (hL : ro_lay M) (hp : xp_244 M v1) : ro_cwp X 1 244 [.ref 163, .int v1] M (fun v M2 => v = none ∧ M2 = xm_244 M v1) := by
  refine rs_begin (lv0 := [(0, .ref 163), (1, .int v1)]) (by decide) rfl (by rw [rm_244.1]; exact Nat.le_of_ble_eq_true rfl) rfl ?_
  unfold xp_244 at hp
  refine rs_aload_n ri_244_0 rfl rfl ?_
  refine rs_gf (v := .ref 181) ri_244_1 rfl (by decide) (ro_kf (kd_163 hL)) rfl (rf_163_27 hL) ?_
  refine rs_iload_n ri_244_4 rfl rfl ?_
  refine rs_dup2 ri_244_5 rfl rfl rfl ?_
  obtain ⟨q0, hp⟩ := hp
  refine rs_iald (v := (M.2.1 181 (v1.toNatClampNeg))) ri_244_6 rfl (by decide) (kd_181 hL) q0 rfl ?_
  refine rs_iconst (v := (1 : Int32)) ri_244_7 rfl (by decide) ?_
  refine rs_isub (r := ((M.2.1 181 (v1.toNatClampNeg)) - (1 : Int32))) ri_244_8 rfl rfl ?_
  obtain ⟨q1, hp⟩ := hp
  refine rs_iast (j := v1.toNatClampNeg) ri_244_9 rfl (by decide) (kd_181 hL) q1 rfl ?_
  refine rs_aload_n ri_244_10 rfl rfl ?_
  refine rs_gf (v := .ref 182) ri_244_11 rfl (by decide) (ro_kf (kd_163 hL)) rfl (rf_163_28 hL) ?_
  refine rs_iload_n ri_244_14 rfl rfl ?_
  refine rs_dup2 ri_244_15 rfl rfl rfl ?_
  obtain ⟨q2, hp⟩ := hp
  refine rs_iald (v := (M.2.1 182 (v1.toNatClampNeg))) ri_244_16 rfl (by decide) (kd_182 hL) q2 rfl ?_
  refine rs_iconst (v := (1 : Int32)) ri_244_17 rfl (by decide) ?_
  refine rs_iadd (r := ((M.2.1 182 (v1.toNatClampNeg)) + (1 : Int32))) ri_244_18 rfl rfl ?_
  obtain ⟨q3, hp⟩ := hp
  refine rs_iast (j := v1.toNatClampNeg) ri_244_19 rfl (by decide) (kd_182 hL) q3 rfl ?_
  refine rs_ret ri_244_20 rm_244.2.1 (by decide) ?_
  exact ⟨by rfl, by rfl⟩
theorem xl_244 {M : ro_Mm} {v1 : Int32} (hL : ro_lay M) (hp : xp_244 M v1) : ro_lay (xm_244 M v1) := by
  unfold xp_244 at hp
  unfold xm_244
  obtain ⟨q0, hp⟩ := hp
  obtain ⟨q1, hp⟩ := hp
  obtain ⟨q2, hp⟩ := hp
  obtain ⟨q3, hp⟩ := hp
  exact hL
theorem xwI_244 {M : ro_Mm} {v1 : Int32} {c j : Nat} (n0 : c ≠ 181) (n1 : c ≠ 182) : (xm_244 M v1).2.1 c j = M.2.1 c j := by
  unfold xm_244
  first | done | exact (((ro_sI_ne n1)).trans (ro_sI_ne n0))
theorem xwJ_244 {M : ro_Mm} {v1 : Int32} {c j : Nat} : (xm_244 M v1).2.2.1 c j = M.2.2.1 c j := by
  unfold xm_244
  first | done | exact rfl
/-- RefusedOnceModel.goWhole(II)V -/
def xm_245 (M : ro_Mm) (v1 : Int32) (v2 : Int32) : ro_Mm := (ro_sI (ro_sI M 181 (v1.toNatClampNeg) ((M.2.1 181 (v1.toNatClampNeg)) - (1 : Int32))) 181 (v2.toNatClampNeg) (((ro_sI M 181 (v1.toNatClampNeg) ((M.2.1 181 (v1.toNatClampNeg)) - (1 : Int32))).2.1 181 (v2.toNatClampNeg)) + (1 : Int32)))
def xp_245 (M : ro_Mm) (v1 : Int32) (v2 : Int32) : Prop := (vp_in v1 6 ∧ (vp_in v1 6 ∧ (vp_in v2 6 ∧ (vp_in v2 6 ∧ True))))
theorem xs_245 {X : ro_Sx} {M : ro_Mm} {v1 : Int32} {v2 : Int32} (hL : ro_lay M) (hp : xp_245 M v1 v2) : ro_cwp X 1 245 [.ref 163, .int v1, .int v2] M (fun v M2 => v = none ∧ M2 = xm_245 M v1 v2) := by
  refine rs_begin (lv0 := [(0, .ref 163), (1, .int v1), (2, .int v2)]) (by decide) rfl (by rw [rm_245.1]; exact Nat.le_of_ble_eq_true rfl) rfl ?_
  unfold xp_245 at hp
  refine rs_aload_n ri_245_0 rfl rfl ?_
  refine rs_gf (v := .ref 181) ri_245_1 rfl (by decide) (ro_kf (kd_163 hL)) rfl (rf_163_27 hL) ?_
  refine rs_iload_n ri_245_4 rfl rfl ?_
  refine rs_dup2 ri_245_5 rfl rfl rfl ?_
  obtain ⟨q0, hp⟩ := hp
  refine rs_iald (v := (M.2.1 181 (v1.toNatClampNeg))) ri_245_6 rfl (by decide) (kd_181 hL) q0 rfl ?_
  refine rs_iconst (v := (1 : Int32)) ri_245_7 rfl (by decide) ?_
  refine rs_isub (r := ((M.2.1 181 (v1.toNatClampNeg)) - (1 : Int32))) ri_245_8 rfl rfl ?_
  obtain ⟨q1, hp⟩ := hp
  refine rs_iast (j := v1.toNatClampNeg) ri_245_9 rfl (by decide) (kd_181 hL) q1 rfl ?_
  refine rs_aload_n ri_245_10 rfl rfl ?_
  refine rs_gf (v := .ref 181) ri_245_11 rfl (by decide) (ro_kf (kd_163 hL)) rfl (rf_163_27 hL) ?_
  refine rs_iload_n ri_245_14 rfl rfl ?_
  refine rs_dup2 ri_245_15 rfl rfl rfl ?_
  obtain ⟨q2, hp⟩ := hp
  refine rs_iald (v := ((ro_sI M 181 (v1.toNatClampNeg) ((M.2.1 181 (v1.toNatClampNeg)) - (1 : Int32))).2.1 181 (v2.toNatClampNeg))) ri_245_16 rfl (by decide) (kd_181 hL) q2 rfl ?_
  refine rs_iconst (v := (1 : Int32)) ri_245_17 rfl (by decide) ?_
  refine rs_iadd (r := (((ro_sI M 181 (v1.toNatClampNeg) ((M.2.1 181 (v1.toNatClampNeg)) - (1 : Int32))).2.1 181 (v2.toNatClampNeg)) + (1 : Int32))) ri_245_18 rfl rfl ?_
  obtain ⟨q3, hp⟩ := hp
  refine rs_iast (j := v2.toNatClampNeg) ri_245_19 rfl (by decide) (kd_181 hL) q3 rfl ?_
  refine rs_ret ri_245_20 rm_245.2.1 (by decide) ?_
  exact ⟨by rfl, by rfl⟩
theorem xl_245 {M : ro_Mm} {v1 : Int32} {v2 : Int32} (hL : ro_lay M) (hp : xp_245 M v1 v2) : ro_lay (xm_245 M v1 v2) := by
  unfold xp_245 at hp
  unfold xm_245
  obtain ⟨q0, hp⟩ := hp
  obtain ⟨q1, hp⟩ := hp
  obtain ⟨q2, hp⟩ := hp
  obtain ⟨q3, hp⟩ := hp
  exact hL
theorem xwI_245 {M : ro_Mm} {v1 : Int32} {v2 : Int32} {c j : Nat} (n0 : c ≠ 181) : (xm_245 M v1 v2).2.1 c j = M.2.1 c j := by
  unfold xm_245
  first | done | exact (((ro_sI_ne n0)).trans (ro_sI_ne n0))
theorem xwJ_245 {M : ro_Mm} {v1 : Int32} {v2 : Int32} {c j : Nat} : (xm_245 M v1 v2).2.2.1 c j = M.2.2.1 c j := by
  unfold xm_245
  first | done | exact rfl
/-- RefusedOnceModel.looked(II)I -/
def xf_261 (M : ro_Mm) (v1 : Int32) (v2 : Int32) : Int32 := (if (M.2.1 165 (v1.toNatClampNeg)) ≤ v2 then (M.2.1 165 (v1.toNatClampNeg)) else v2)
def xp_261 (M : ro_Mm) (v1 : Int32) (v2 : Int32) : Prop := (vp_in v1 6 ∧ (((M.2.1 165 (v1.toNatClampNeg)) ≤ v2 → (vp_in v1 6 ∧ True)) ∧ (¬ ((M.2.1 165 (v1.toNatClampNeg)) ≤ v2) → True)))
theorem xs_261 {X : ro_Sx} {M : ro_Mm} {v1 : Int32} {v2 : Int32} (hL : ro_lay M) (hp : xp_261 M v1 v2) : ro_cwp X 1 261 [.ref 163, .int v1, .int v2] M (fun v M2 => v = some (.int (xf_261 M v1 v2)) ∧ M2 = M) := by
  refine rs_begin (lv0 := [(0, .ref 163), (1, .int v1), (2, .int v2)]) (by decide) rfl (by rw [rm_261.1]; exact Nat.le_of_ble_eq_true rfl) rfl ?_
  unfold xp_261 at hp
  refine rs_iload_n ri_261_0 rfl rfl ?_
  refine rs_aload_n ri_261_1 rfl rfl ?_
  refine rs_gf (v := .ref 165) ri_261_2 rfl (by decide) (ro_kf (kd_163 hL)) rfl (rf_163_3 hL) ?_
  refine rs_iload_n ri_261_5 rfl rfl ?_
  obtain ⟨q0, hp⟩ := hp
  refine rs_iald (v := (M.2.1 165 (v1.toNatClampNeg))) ri_261_6 rfl (by decide) (kd_165 hL) q0 rfl ?_
  refine rs_icmp_ge (t := 14) ri_261_7 rfl rfl (fun h2 => ?_) (fun h2 => ?_)
  · have hp := hp.1 h2
    refine rs_aload_n ri_261_14 rfl rfl ?_
    refine rs_gf (v := .ref 165) ri_261_15 rfl (by decide) (ro_kf (kd_163 hL)) rfl (rf_163_3 hL) ?_
    refine rs_iload_n ri_261_18 rfl rfl ?_
    obtain ⟨q2, hp⟩ := hp
    refine rs_iald (v := (M.2.1 165 (v1.toNatClampNeg))) ri_261_19 rfl (by decide) (kd_165 hL) q2 rfl ?_
    refine rs_iret ri_261_20 rm_261.2.1 (by decide) ?_
    exact ⟨by unfold xf_261; first | (simp only [if_pos h2]; done) | rfl, by rfl⟩
  · have hp := hp.2 h2
    refine rs_iload_n ri_261_10 rfl rfl ?_
    refine rs_goto (t := 20) ri_261_11 rfl ?_
    refine rs_iret ri_261_20 rm_261.2.1 (by decide) ?_
    exact ⟨by unfold xf_261; first | (simp only [if_neg h2]; done) | rfl, by rfl⟩
/-- RefusedOnceModel.mint(I)I -/
def xf_276 (M : ro_Mm) (v1 : Int32) : Int32 := (if (xf_204 M v1) then (if (M.2.1 165 (v1.toNatClampNeg)) = (0 : Int32) then (-5 : Int32) else (if (M.2.1 164 (v1.toNatClampNeg)) = (20 : Int32) then (-5 : Int32) else ((M.2.1 164 (v1.toNatClampNeg)) + (1 : Int32)))) else (-1 : Int32))
def xm_276 (M : ro_Mm) (v1 : Int32) : ro_Mm := (if (xf_204 M v1) then (if (M.2.1 165 (v1.toNatClampNeg)) = (0 : Int32) then M else (if (M.2.1 164 (v1.toNatClampNeg)) = (20 : Int32) then M else (ro_sI (ro_sI (ro_sI M 165 (v1.toNatClampNeg) ((M.2.1 165 (v1.toNatClampNeg)) - (1 : Int32))) 164 (v1.toNatClampNeg) ((M.2.1 164 (v1.toNatClampNeg)) + (1 : Int32))) 184 2 ((M.2.1 184 2) + (1 : Int32))))) else M)
def xp_276 (M : ro_Mm) (v1 : Int32) : Prop := (((xf_204 M v1) → (vp_in v1 6 ∧ (((M.2.1 165 (v1.toNatClampNeg)) = (0 : Int32) → True) ∧ (¬ ((M.2.1 165 (v1.toNatClampNeg)) = (0 : Int32)) → (vp_in v1 6 ∧ (((M.2.1 164 (v1.toNatClampNeg)) = (20 : Int32) → True) ∧ (¬ ((M.2.1 164 (v1.toNatClampNeg)) = (20 : Int32)) → (vp_in v1 6 ∧ (vp_in v1 6 ∧ (vp_in v1 6 ∧ (vp_in v1 6 ∧ (vp_in v1 6 ∧ True)))))))))))) ∧ (¬ ((xf_204 M v1)) → True))
theorem xs_276 {X : ro_Sx} {M : ro_Mm} {v1 : Int32} (hL : ro_lay M) (hp : xp_276 M v1) : ro_cwp X 3 276 [.ref 163, .int v1] M (fun v M2 => v = some (.int (xf_276 M v1)) ∧ M2 = xm_276 M v1) := by
  refine rs_begin (lv0 := [(0, .ref 163), (1, .int v1)]) (by decide) rfl (by rw [rm_276.1]; exact Nat.le_of_ble_eq_true rfl) rfl ?_
  unfold xp_276 at hp
  refine rs_aload_n ri_276_0 rfl rfl ?_
  refine rs_iload_n ri_276_1 rfl rfl ?_
  refine rs_virt (As := [.int v1]) (r := []) ri_276_2 rfl (by decide) rm_204.2.2.2 rm_204.2.2.1 rfl rfl rfl (by decide) (ro_kf (kd_163 hL)) (Nat.le_of_ble_eq_true rfl) (by decide) (by decide) (xs_204 (X := X) hL) ?_
  rintro _ _ ⟨e1, e2⟩
  rw [e1, e2]
  show ro_w X _ 276 _ 5 [(0, .ref 163), (1, .int v1)] [.int (ro_b (xf_204 M v1))] M (0, 0)
  refine rs_ifne_c (t := 10) ri_276_5 rfl rfl (fun h1 => ?_) (fun h1 => ?_)
  · have hp := hp.1 h1
    refine rs_aload_n ri_276_10 rfl rfl ?_
    refine rs_gf (v := .ref 165) ri_276_11 rfl (by decide) (ro_kf (kd_163 hL)) rfl (rf_163_3 hL) ?_
    refine rs_iload_n ri_276_14 rfl rfl ?_
    obtain ⟨q1, hp⟩ := hp
    refine rs_iald (v := (M.2.1 165 (v1.toNatClampNeg))) ri_276_15 rfl (by decide) (kd_165 hL) q1 rfl ?_
    refine rs_if_eq (t := 30) ri_276_16 rfl rfl (fun h3 => ?_) (fun h3 => ?_)
    · have hp := hp.1 h3
      refine rs_bipush (v := (-5 : Int32)) ri_276_30 rfl (by decide) ?_
      refine rs_iret ri_276_32 rm_276.2.1 (by decide) ?_
      exact ⟨by unfold xf_276; first | (simp only [if_pos h1, if_pos h3]; done) | rfl, by unfold xm_276; first | (simp only [if_pos h1, if_pos h3]; done) | rfl⟩
    · have hp := hp.2 h3
      refine rs_aload_n ri_276_19 rfl rfl ?_
      refine rs_gf (v := .ref 164) ri_276_20 rfl (by decide) (ro_kf (kd_163 hL)) rfl (rf_163_2 hL) ?_
      refine rs_iload_n ri_276_23 rfl rfl ?_
      obtain ⟨q3, hp⟩ := hp
      refine rs_iald (v := (M.2.1 164 (v1.toNatClampNeg))) ri_276_24 rfl (by decide) (kd_164 hL) q3 rfl ?_
      refine rs_bipush (v := (20 : Int32)) ri_276_25 rfl (by decide) ?_
      refine rs_icmp_ne (t := 33) ri_276_27 rfl rfl (fun h5 => ?_) (fun h5 => ?_)
      · have hp := hp.2 h5
        refine rs_aload_n ri_276_33 rfl rfl ?_
        refine rs_gf (v := .ref 165) ri_276_34 rfl (by decide) (ro_kf (kd_163 hL)) rfl (rf_163_3 hL) ?_
        refine rs_iload_n ri_276_37 rfl rfl ?_
        refine rs_dup2 ri_276_38 rfl rfl rfl ?_
        obtain ⟨q5, hp⟩ := hp
        refine rs_iald (v := (M.2.1 165 (v1.toNatClampNeg))) ri_276_39 rfl (by decide) (kd_165 hL) q5 rfl ?_
        refine rs_iconst (v := (1 : Int32)) ri_276_40 rfl (by decide) ?_
        refine rs_isub (r := ((M.2.1 165 (v1.toNatClampNeg)) - (1 : Int32))) ri_276_41 rfl rfl ?_
        obtain ⟨q6, hp⟩ := hp
        refine rs_iast (j := v1.toNatClampNeg) ri_276_42 rfl (by decide) (kd_165 hL) q6 rfl ?_
        refine rs_aload_n ri_276_43 rfl rfl ?_
        refine rs_gf (v := .ref 164) ri_276_44 rfl (by decide) (ro_kf (kd_163 hL)) rfl (rf_163_2 hL) ?_
        refine rs_iload_n ri_276_47 rfl rfl ?_
        refine rs_dup2 ri_276_48 rfl rfl rfl ?_
        obtain ⟨q7, hp⟩ := hp
        refine rs_iald (v := (M.2.1 164 (v1.toNatClampNeg))) ri_276_49 rfl (by decide) (kd_164 hL) q7 rfl ?_
        refine rs_iconst (v := (1 : Int32)) ri_276_50 rfl (by decide) ?_
        refine rs_iadd (r := ((M.2.1 164 (v1.toNatClampNeg)) + (1 : Int32))) ri_276_51 rfl rfl ?_
        obtain ⟨q8, hp⟩ := hp
        refine rs_iast (j := v1.toNatClampNeg) ri_276_52 rfl (by decide) (kd_164 hL) q8 rfl ?_
        refine rs_aload_n ri_276_53 rfl rfl ?_
        refine rs_gf (v := .ref 184) ri_276_54 rfl (by decide) (ro_kf (kd_163 hL)) rfl (rf_163_42 hL) ?_
        refine rs_iconst (v := (2 : Int32)) ri_276_57 rfl (by decide) ?_
        refine rs_dup2 ri_276_58 rfl rfl rfl ?_
        refine rs_iald (v := (M.2.1 184 2)) ri_276_59 rfl (by decide) (kd_184 hL) (vp_in_iff.mpr ⟨by decide, by decide⟩) rfl ?_
        refine rs_iconst (v := (1 : Int32)) ri_276_60 rfl (by decide) ?_
        refine rs_iadd (r := ((M.2.1 184 2) + (1 : Int32))) ri_276_61 rfl rfl ?_
        refine rs_iast (j := 2) ri_276_62 rfl (by decide) (kd_184 hL) (vp_in_iff.mpr ⟨by decide, by decide⟩) rfl ?_
        refine rs_aload_n ri_276_63 rfl rfl ?_
        refine rs_gf (v := .ref 164) ri_276_64 rfl (by decide) (ro_kf (kd_163 hL)) rfl (rf_163_2 hL) ?_
        refine rs_iload_n ri_276_67 rfl rfl ?_
        obtain ⟨q9, hp⟩ := hp
        refine rs_iald (v := ((M.2.1 164 (v1.toNatClampNeg)) + (1 : Int32))) ri_276_68 rfl (by decide) (kd_164 hL) q9 ro_up2_eq ?_
        refine rs_iret ri_276_69 rm_276.2.1 (by decide) ?_
        exact ⟨by unfold xf_276; first | (simp only [if_pos h1, if_neg h3, if_neg h5]; done) | rfl, by unfold xm_276; first | (simp only [if_pos h1, if_neg h3, if_neg h5]; done) | rfl⟩
      · have hp := hp.1 h5
        refine rs_bipush (v := (-5 : Int32)) ri_276_30 rfl (by decide) ?_
        refine rs_iret ri_276_32 rm_276.2.1 (by decide) ?_
        exact ⟨by unfold xf_276; first | (simp only [if_pos h1, if_neg h3, if_pos h5]; done) | rfl, by unfold xm_276; first | (simp only [if_pos h1, if_neg h3, if_pos h5]; done) | rfl⟩
  · have hp := hp.2 h1
    refine rs_iconst (v := (-1 : Int32)) ri_276_8 rfl (by decide) ?_
    refine rs_iret ri_276_9 rm_276.2.1 (by decide) ?_
    exact ⟨by unfold xf_276; first | (simp only [if_neg h1]; done) | rfl, by unfold xm_276; first | (simp only [if_neg h1]; done) | rfl⟩
theorem xl_276 {M : ro_Mm} {v1 : Int32} (hL : ro_lay M) (hp : xp_276 M v1) : ro_lay (xm_276 M v1) := by
  unfold xp_276 at hp
  unfold xm_276
  by_cases hz : (xf_204 M v1)
  · have hp := hp.1 hz
    rw [if_pos hz]
    obtain ⟨q1, hp⟩ := hp
    by_cases hz : (M.2.1 165 (v1.toNatClampNeg)) = (0 : Int32)
    · have hp := hp.1 hz
      rw [if_pos hz]
      exact hL
    · have hp := hp.2 hz
      rw [if_neg hz]
      obtain ⟨q3, hp⟩ := hp
      by_cases hz : (M.2.1 164 (v1.toNatClampNeg)) = (20 : Int32)
      · have hp := hp.1 hz
        rw [if_pos hz]
        exact hL
      · have hp := hp.2 hz
        rw [if_neg hz]
        obtain ⟨q5, hp⟩ := hp
        obtain ⟨q6, hp⟩ := hp
        obtain ⟨q7, hp⟩ := hp
        obtain ⟨q8, hp⟩ := hp
        obtain ⟨q9, hp⟩ := hp
        exact hL
  · have hp := hp.2 hz
    rw [if_neg hz]
    exact hL
theorem xwI_276 {M : ro_Mm} {v1 : Int32} {c j : Nat} (n0 : c ≠ 165) (n1 : c ≠ 164) (n2 : c ≠ 184) : (xm_276 M v1).2.1 c j = M.2.1 c j := by
  unfold xm_276
  by_cases hz : (xf_204 M v1)
  · rw [if_pos hz]
    by_cases hz : (M.2.1 165 (v1.toNatClampNeg)) = (0 : Int32)
    · rw [if_pos hz]
      first | done | exact rfl
    · rw [if_neg hz]
      by_cases hz : (M.2.1 164 (v1.toNatClampNeg)) = (20 : Int32)
      · rw [if_pos hz]
        first | done | exact rfl
      · rw [if_neg hz]
        first | done | exact ((((ro_sI_ne n2)).trans (ro_sI_ne n1)).trans (ro_sI_ne n0))
  · rw [if_neg hz]
    first | done | exact rfl
theorem xwJ_276 {M : ro_Mm} {v1 : Int32} {c j : Nat} : (xm_276 M v1).2.2.1 c j = M.2.2.1 c j := by
  unfold xm_276
  by_cases hz : (xf_204 M v1)
  · rw [if_pos hz]
    by_cases hz : (M.2.1 165 (v1.toNatClampNeg)) = (0 : Int32)
    · rw [if_pos hz]
      first | done | exact rfl
    · rw [if_neg hz]
      by_cases hz : (M.2.1 164 (v1.toNatClampNeg)) = (20 : Int32)
      · rw [if_pos hz]
        first | done | exact rfl
      · rw [if_neg hz]
        first | done | exact rfl
  · rw [if_neg hz]
    first | done | exact rfl
