/-! methods without loops: what they answer, what they leave, the rows that show it (by program, wip/whole/walk.py) -/
/-- RefusedOnce.within(III)Z -/
def xf_13 (M : ro_Mm) (v0 : Int32) (v1 : Int32) (v2 : Int32) : Bool := (if v0 < v1 then false else (if v2 < v0 then false else true))
theorem xs_13 {X : ro_Sx} {M : ro_Mm} {v0 : Int32} {v1 : Int32} {v2 : Int32} (hL : ro_lay M) : ro_cwp X 1 13 [.int v0, .int v1, .int v2] M (fun v M2 => v = some (.int (ro_b (xf_13 M v0 v1 v2))) ∧ M2 = M) := by
  refine rs_begin (lv0 := [(0, .int v0), (1, .int v1), (2, .int v2)]) (by decide) rfl (by rw [rm_13.1]; exact Nat.le_of_ble_eq_true rfl) rfl ?_
  refine rs_iload_n ri_13_0 rfl rfl ?_
  refine rs_iload_n ri_13_1 rfl rfl ?_
  refine rs_icmp_lt (t := 14) ri_13_2 rfl rfl (fun h1 => ?_) (fun h1 => ?_)
  · skip
    refine rs_iconst (v := (0 : Int32)) ri_13_14 rfl (by decide) ?_
    refine rs_zret (p := false) ri_13_15 rm_13.2.1 (by decide) rfl ?_
    exact ⟨by unfold xf_13; first | (simp only [if_pos h1]; done) | rfl, by rfl⟩
  · skip
    refine rs_iload_n ri_13_5 rfl rfl ?_
    refine rs_iload_n ri_13_6 rfl rfl ?_
    refine rs_icmp_gt (t := 14) ri_13_7 rfl rfl (fun h2 => ?_) (fun h2 => ?_)
    · skip
      refine rs_iconst (v := (0 : Int32)) ri_13_14 rfl (by decide) ?_
      refine rs_zret (p := false) ri_13_15 rm_13.2.1 (by decide) rfl ?_
      exact ⟨by unfold xf_13; first | (simp only [if_neg h1, if_pos h2]; done) | rfl, by rfl⟩
    · skip
      refine rs_iconst (v := (1 : Int32)) ri_13_10 rfl (by decide) ?_
      refine rs_goto (t := 15) ri_13_11 rfl ?_
      refine rs_zret (p := true) ri_13_15 rm_13.2.1 (by decide) rfl ?_
      exact ⟨by unfold xf_13; first | (simp only [if_neg h1, if_neg h2]; done) | rfl, by rfl⟩
/-- RefusedOnce$Land.allows(II)Z -/
def xf_15 (M : ro_Mm) (v0 : Int32) (v1 : Int32) : Bool := (if v0 < (0 : Int32) then false else (if (7 : Int32) ≤ v0 then false else (if v1 < (0 : Int32) then false else (if (ro_xv (0, fun _ => 0) 1 v0.toNatClampNeg) < v1 then false else true))))
theorem xs_15 {X : ro_Sx} {M : ro_Mm} {v0 : Int32} {v1 : Int32} (hL : ro_lay M) : ro_cwp X 1 15 [.int v0, .int v1] M (fun v M2 => v = some (.int (ro_b (xf_15 M v0 v1))) ∧ M2 = M) := by
  refine rs_begin (lv0 := [(0, .int v0), (1, .int v1)]) (by decide) rfl (by rw [rm_15.1]; exact Nat.le_of_ble_eq_true rfl) rfl ?_
  refine rs_iload_n ri_15_0 rfl rfl ?_
  refine rs_if_lt (t := 29) ri_15_1 rfl rfl (fun h1 => ?_) (fun h1 => ?_)
  · skip
    refine rs_iconst (v := (0 : Int32)) ri_15_29 rfl (by decide) ?_
    refine rs_zret (p := false) ri_15_30 rm_15.2.1 (by decide) rfl ?_
    exact ⟨by unfold xf_15; first | (simp only [if_pos h1]; done) | rfl, by rfl⟩
  · skip
    refine rs_iload_n ri_15_4 rfl rfl ?_
    refine rs_gs ri_15_5 rfl ?_
    refine rs_len0 (v := (7 : Int32)) ri_15_8 rfl (by decide) rfl ?_
    refine rs_icmp_ge (t := 29) ri_15_9 rfl rfl (fun h2 => ?_) (fun h2 => ?_)
    · skip
      refine rs_iconst (v := (0 : Int32)) ri_15_29 rfl (by decide) ?_
      refine rs_zret (p := false) ri_15_30 rm_15.2.1 (by decide) rfl ?_
      exact ⟨by unfold xf_15; first | (simp only [if_neg h1, if_pos h2]; done) | rfl, by rfl⟩
    · skip
      refine rs_iload_n ri_15_12 rfl rfl ?_
      refine rs_if_lt (t := 29) ri_15_13 rfl rfl (fun h3 => ?_) (fun h3 => ?_)
      · skip
        refine rs_iconst (v := (0 : Int32)) ri_15_29 rfl (by decide) ?_
        refine rs_zret (p := false) ri_15_30 rm_15.2.1 (by decide) rfl ?_
        exact ⟨by unfold xf_15; first | (simp only [if_neg h1, if_neg h2, if_pos h3]; done) | rfl, by rfl⟩
      · skip
        refine rs_iload_n ri_15_16 rfl rfl ?_
        refine rs_gs ri_15_17 rfl ?_
        refine rs_iload_n ri_15_20 rfl rfl ?_
        refine rs_iald1 (n := 7) (v := (ro_xv (0, fun _ => 0) 1 v0.toNatClampNeg)) ri_15_21 rfl (by decide) rfl (vp_in_iff.mpr ⟨(ro_lo1 h1), (ro_hi2 h2 (by decide))⟩) (ro_xv0 (by decide)) ?_
        refine rs_icmp_gt (t := 29) ri_15_22 rfl rfl (fun h4 => ?_) (fun h4 => ?_)
        · skip
          refine rs_iconst (v := (0 : Int32)) ri_15_29 rfl (by decide) ?_
          refine rs_zret (p := false) ri_15_30 rm_15.2.1 (by decide) rfl ?_
          exact ⟨by unfold xf_15; first | (simp only [if_neg h1, if_neg h2, if_neg h3, if_pos h4]; done) | rfl, by rfl⟩
        · skip
          refine rs_iconst (v := (1 : Int32)) ri_15_25 rfl (by decide) ?_
          refine rs_goto (t := 30) ri_15_26 rfl ?_
          refine rs_zret (p := true) ri_15_30 rm_15.2.1 (by decide) rfl ?_
          exact ⟨by unfold xf_15; first | (simp only [if_neg h1, if_neg h2, if_neg h3, if_neg h4]; done) | rfl, by rfl⟩
/-- RefusedOnce$Purses.setWhole(II)V -/
def xm_16 (M : ro_Mm) (c0 : Nat) (v1 : Int32) (v2 : Int32) : ro_Mm := (if v1 < (0 : Int32) then M else (if (6 : Int32) ≤ v1 then M else (ro_sI M (c0 + 1) (v1.toNatClampNeg) v2)))
theorem xs_16 {X : ro_Sx} {M : ro_Mm} {c0 : Nat} {v1 : Int32} {v2 : Int32} (hL : ro_lay M) (hc0 : ro_ip c0) : ro_cwp X 1 16 [.ref c0, .int v1, .int v2] M (fun v M2 => v = none ∧ M2 = xm_16 M c0 v1 v2) := by
  refine rs_begin (lv0 := [(0, .ref c0), (1, .int v1), (2, .int v2)]) (by decide) rfl (by rw [rm_16.1]; exact Nat.le_of_ble_eq_true rfl) rfl ?_
  refine rs_iload_n ri_16_0 rfl rfl ?_
  refine rs_if_lt (t := 20) ri_16_1 rfl rfl (fun h1 => ?_) (fun h1 => ?_)
  · skip
    refine rs_ret ri_16_20 rm_16.2.1 (by decide) ?_
    exact ⟨by rfl, by unfold xm_16; first | (simp only [if_pos h1]; done) | rfl⟩
  · skip
    refine rs_iload_n ri_16_4 rfl rfl ?_
    refine rs_aload_n ri_16_5 rfl rfl ?_
    refine rs_gf (v := .ref (c0 + 1)) ri_16_6 rfl (ro_ip4 hc0) (ro_kf (ip_kd hL hc0)) rfl (ip_r0 hL hc0) ?_
    refine rs_len (v := (6 : Int32)) ri_16_9 rfl (by have := ro_ip4 hc0; omega) (ip_kd1 hL hc0) (by decide) rfl ?_
    refine rs_icmp_ge (t := 20) ri_16_10 rfl rfl (fun h2 => ?_) (fun h2 => ?_)
    · skip
      refine rs_ret ri_16_20 rm_16.2.1 (by decide) ?_
      exact ⟨by rfl, by unfold xm_16; first | (simp only [if_neg h1, if_pos h2]; done) | rfl⟩
    · skip
      refine rs_aload_n ri_16_13 rfl rfl ?_
      refine rs_gf (v := .ref (c0 + 1)) ri_16_14 rfl (ro_ip4 hc0) (ro_kf (ip_kd hL hc0)) rfl (ip_r0 hL hc0) ?_
      refine rs_iload_n ri_16_17 rfl rfl ?_
      refine rs_iload_n ri_16_18 rfl rfl ?_
      refine rs_iast (j := v1.toNatClampNeg) ri_16_19 rfl (by have := ro_ip4 hc0; omega) (ip_kd1 hL hc0) (vp_in_iff.mpr ⟨(ro_lo1 h1), (ro_hi2 h2 (by decide))⟩) rfl ?_
      refine rs_ret ri_16_20 rm_16.2.1 (by decide) ?_
      exact ⟨by rfl, by unfold xm_16; first | (simp only [if_neg h1, if_neg h2]; done) | rfl⟩
theorem xl_16 {M : ro_Mm} {c0 : Nat} {v1 : Int32} {v2 : Int32} (hL : ro_lay M) (hc0 : ro_ip c0) : ro_lay (xm_16 M c0 v1 v2) := by
  unfold xm_16
  by_cases hz : v1 < (0 : Int32)
  · skip
    rw [if_pos hz]
    exact hL
  · skip
    rw [if_neg hz]
    by_cases hz : (6 : Int32) ≤ v1
    · skip
      rw [if_pos hz]
      exact hL
    · skip
      rw [if_neg hz]
      exact hL
theorem xwI_16 {M : ro_Mm} {c0 : Nat} {v1 : Int32} {v2 : Int32} {c j : Nat} (n0 : c ≠ (c0 + 1)) : (xm_16 M c0 v1 v2).2.1 c j = M.2.1 c j := by
  unfold xm_16
  by_cases hz : v1 < (0 : Int32)
  · rw [if_pos hz]
    first | done | exact rfl
  · rw [if_neg hz]
    by_cases hz : (6 : Int32) ≤ v1
    · rw [if_pos hz]
      first | done | exact rfl
    · rw [if_neg hz]
      first | done | exact (ro_sI_ne n0)
theorem xwJ_16 {M : ro_Mm} {c0 : Nat} {v1 : Int32} {v2 : Int32} {c j : Nat} : (xm_16 M c0 v1 v2).2.2.1 c j = M.2.2.1 c j := by
  unfold xm_16
  by_cases hz : v1 < (0 : Int32)
  · rw [if_pos hz]
    first | done | exact rfl
  · rw [if_neg hz]
    by_cases hz : (6 : Int32) ≤ v1
    · rw [if_pos hz]
      first | done | exact rfl
    · rw [if_neg hz]
      first | done | exact rfl
/-- RefusedOnce$Purses.setCut(II)V -/
def xm_17 (M : ro_Mm) (c0 : Nat) (v1 : Int32) (v2 : Int32) : ro_Mm := (if v1 < (0 : Int32) then M else (if (6 : Int32) ≤ v1 then M else (ro_sI M (c0 + 2) (v1.toNatClampNeg) v2)))
theorem xs_17 {X : ro_Sx} {M : ro_Mm} {c0 : Nat} {v1 : Int32} {v2 : Int32} (hL : ro_lay M) (hc0 : ro_ip c0) : ro_cwp X 1 17 [.ref c0, .int v1, .int v2] M (fun v M2 => v = none ∧ M2 = xm_17 M c0 v1 v2) := by
  refine rs_begin (lv0 := [(0, .ref c0), (1, .int v1), (2, .int v2)]) (by decide) rfl (by rw [rm_17.1]; exact Nat.le_of_ble_eq_true rfl) rfl ?_
  refine rs_iload_n ri_17_0 rfl rfl ?_
  refine rs_if_lt (t := 20) ri_17_1 rfl rfl (fun h1 => ?_) (fun h1 => ?_)
  · skip
    refine rs_ret ri_17_20 rm_17.2.1 (by decide) ?_
    exact ⟨by rfl, by unfold xm_17; first | (simp only [if_pos h1]; done) | rfl⟩
  · skip
    refine rs_iload_n ri_17_4 rfl rfl ?_
    refine rs_aload_n ri_17_5 rfl rfl ?_
    refine rs_gf (v := .ref (c0 + 2)) ri_17_6 rfl (ro_ip4 hc0) (ro_kf (ip_kd hL hc0)) rfl (ip_r1 hL hc0) ?_
    refine rs_len (v := (6 : Int32)) ri_17_9 rfl (by have := ro_ip4 hc0; omega) (ip_kd2 hL hc0) (by decide) rfl ?_
    refine rs_icmp_ge (t := 20) ri_17_10 rfl rfl (fun h2 => ?_) (fun h2 => ?_)
    · skip
      refine rs_ret ri_17_20 rm_17.2.1 (by decide) ?_
      exact ⟨by rfl, by unfold xm_17; first | (simp only [if_neg h1, if_pos h2]; done) | rfl⟩
    · skip
      refine rs_aload_n ri_17_13 rfl rfl ?_
      refine rs_gf (v := .ref (c0 + 2)) ri_17_14 rfl (ro_ip4 hc0) (ro_kf (ip_kd hL hc0)) rfl (ip_r1 hL hc0) ?_
      refine rs_iload_n ri_17_17 rfl rfl ?_
      refine rs_iload_n ri_17_18 rfl rfl ?_
      refine rs_iast (j := v1.toNatClampNeg) ri_17_19 rfl (by have := ro_ip4 hc0; omega) (ip_kd2 hL hc0) (vp_in_iff.mpr ⟨(ro_lo1 h1), (ro_hi2 h2 (by decide))⟩) rfl ?_
      refine rs_ret ri_17_20 rm_17.2.1 (by decide) ?_
      exact ⟨by rfl, by unfold xm_17; first | (simp only [if_neg h1, if_neg h2]; done) | rfl⟩
theorem xl_17 {M : ro_Mm} {c0 : Nat} {v1 : Int32} {v2 : Int32} (hL : ro_lay M) (hc0 : ro_ip c0) : ro_lay (xm_17 M c0 v1 v2) := by
  unfold xm_17
  by_cases hz : v1 < (0 : Int32)
  · skip
    rw [if_pos hz]
    exact hL
  · skip
    rw [if_neg hz]
    by_cases hz : (6 : Int32) ≤ v1
    · skip
      rw [if_pos hz]
      exact hL
    · skip
      rw [if_neg hz]
      exact hL
theorem xwI_17 {M : ro_Mm} {c0 : Nat} {v1 : Int32} {v2 : Int32} {c j : Nat} (n0 : c ≠ (c0 + 2)) : (xm_17 M c0 v1 v2).2.1 c j = M.2.1 c j := by
  unfold xm_17
  by_cases hz : v1 < (0 : Int32)
  · rw [if_pos hz]
    first | done | exact rfl
  · rw [if_neg hz]
    by_cases hz : (6 : Int32) ≤ v1
    · rw [if_pos hz]
      first | done | exact rfl
    · rw [if_neg hz]
      first | done | exact (ro_sI_ne n0)
theorem xwJ_17 {M : ro_Mm} {c0 : Nat} {v1 : Int32} {v2 : Int32} {c j : Nat} : (xm_17 M c0 v1 v2).2.2.1 c j = M.2.2.1 c j := by
  unfold xm_17
  by_cases hz : v1 < (0 : Int32)
  · rw [if_pos hz]
    first | done | exact rfl
  · rw [if_neg hz]
    by_cases hz : (6 : Int32) ≤ v1
    · rw [if_pos hz]
      first | done | exact rfl
    · rw [if_neg hz]
      first | done | exact rfl
/-- RefusedOnce$Land.howMany()I -/
def xf_18 (M : ro_Mm) : Int32 := (M.2.1 5 4)
theorem xs_18 {X : ro_Sx} {M : ro_Mm} (hL : ro_lay M) : ro_cwp X 1 18 [.ref 5] M (fun v M2 => v = some (.int (xf_18 M)) ∧ M2 = M) := by
  refine rs_begin (lv0 := [(0, .ref 5)]) (by decide) rfl (by rw [rm_18.1]; exact Nat.le_of_ble_eq_true rfl) rfl ?_
  refine rs_aload_n ri_18_0 rfl rfl ?_
  refine rs_gf (v := .int (M.2.1 5 4)) ri_18_1 rfl (by decide) (ro_kf (kd_5 hL)) rfl rfl ?_
  refine rs_iret ri_18_4 rm_18.2.1 (by decide) ?_
  exact ⟨by rfl, by rfl⟩
/-- RefusedOnce$Shelf.isEmpty()Z -/
def xf_21 (M : ro_Mm) (c0 : Nat) : Bool := (if (M.2.1 c0 1) = (-2 : Int32) then true else false)
theorem xs_21 {X : ro_Sx} {M : ro_Mm} {c0 : Nat} (hL : ro_lay M) (hc0 : ro_is c0) : ro_cwp X 1 21 [.ref c0] M (fun v M2 => v = some (.int (ro_b (xf_21 M c0))) ∧ M2 = M) := by
  refine rs_begin (lv0 := [(0, .ref c0)]) (by decide) rfl (by rw [rm_21.1]; exact Nat.le_of_ble_eq_true rfl) rfl ?_
  refine rs_aload_n ri_21_0 rfl rfl ?_
  refine rs_gf (v := .int (M.2.1 c0 1)) ri_21_1 rfl (ro_is4 hc0) (ro_kf (is_kd hL hc0)) rfl rfl ?_
  refine rs_bipush (v := (-2 : Int32)) ri_21_4 rfl (by decide) ?_
  refine rs_icmp_ne (t := 13) ri_21_6 rfl rfl (fun h1 => ?_) (fun h1 => ?_)
  · skip
    refine rs_iconst (v := (0 : Int32)) ri_21_13 rfl (by decide) ?_
    refine rs_zret (p := false) ri_21_14 rm_21.2.1 (by decide) rfl ?_
    exact ⟨by unfold xf_21; first | (simp only [if_neg h1]; done) | rfl, by rfl⟩
  · skip
    refine rs_iconst (v := (1 : Int32)) ri_21_9 rfl (by decide) ?_
    refine rs_goto (t := 14) ri_21_10 rfl ?_
    refine rs_zret (p := true) ri_21_14 rm_21.2.1 (by decide) rfl ?_
    exact ⟨by unfold xf_21; first | (simp only [if_pos h1]; done) | rfl, by rfl⟩
/-- RefusedOnce$Shelf.holdsBytes()Z -/
def xf_22 (M : ro_Mm) (c0 : Nat) : Bool := (if (M.2.1 c0 1) = (0 : Int32) then true else false)
theorem xs_22 {X : ro_Sx} {M : ro_Mm} {c0 : Nat} (hL : ro_lay M) (hc0 : ro_is c0) : ro_cwp X 1 22 [.ref c0] M (fun v M2 => v = some (.int (ro_b (xf_22 M c0))) ∧ M2 = M) := by
  refine rs_begin (lv0 := [(0, .ref c0)]) (by decide) rfl (by rw [rm_22.1]; exact Nat.le_of_ble_eq_true rfl) rfl ?_
  refine rs_aload_n ri_22_0 rfl rfl ?_
  refine rs_gf (v := .int (M.2.1 c0 1)) ri_22_1 rfl (ro_is4 hc0) (ro_kf (is_kd hL hc0)) rfl rfl ?_
  refine rs_if_ne (t := 11) ri_22_4 rfl rfl (fun h1 => ?_) (fun h1 => ?_)
  · skip
    refine rs_iconst (v := (0 : Int32)) ri_22_11 rfl (by decide) ?_
    refine rs_zret (p := false) ri_22_12 rm_22.2.1 (by decide) rfl ?_
    exact ⟨by unfold xf_22; first | (simp only [if_neg h1]; done) | rfl, by rfl⟩
  · skip
    refine rs_iconst (v := (1 : Int32)) ri_22_7 rfl (by decide) ?_
    refine rs_goto (t := 12) ri_22_8 rfl ?_
    refine rs_zret (p := true) ri_22_12 rm_22.2.1 (by decide) rfl ?_
    exact ⟨by unfold xf_22; first | (simp only [if_pos h1]; done) | rfl, by rfl⟩
/-- RefusedOnce$Shelf.length()I -/
def xf_24 (M : ro_Mm) (c0 : Nat) : Int32 := (M.2.1 c0 2)
theorem xs_24 {X : ro_Sx} {M : ro_Mm} {c0 : Nat} (hL : ro_lay M) (hc0 : ro_is c0) : ro_cwp X 1 24 [.ref c0] M (fun v M2 => v = some (.int (xf_24 M c0)) ∧ M2 = M) := by
  refine rs_begin (lv0 := [(0, .ref c0)]) (by decide) rfl (by rw [rm_24.1]; exact Nat.le_of_ble_eq_true rfl) rfl ?_
  refine rs_aload_n ri_24_0 rfl rfl ?_
  refine rs_gf (v := .int (M.2.1 c0 2)) ri_24_1 rfl (ro_is4 hc0) (ro_kf (is_kd hL hc0)) rfl rfl ?_
  refine rs_iret ri_24_4 rm_24.2.1 (by decide) ?_
  exact ⟨by rfl, by rfl⟩
/-- RefusedOnce$Shelf.longAt(I)J -/
def xf_26 (M : ro_Mm) (c0 : Nat) (v1 : Int32) : Int64 := (if v1 < (0 : Int32) then (0 : Int64) else (if (M.2.1 c0 2) ≤ v1 then (0 : Int64) else (if (60 : Int32) ≤ v1 then (0 : Int64) else (M.2.2.1 (c0 + 1) (v1.toNatClampNeg)))))
theorem xs_26 {X : ro_Sx} {M : ro_Mm} {c0 : Nat} {v1 : Int32} (hL : ro_lay M) (hc0 : ro_is c0) : ro_cwp X 1 26 [.ref c0, .int v1] M (fun v M2 => v = some (.long (xf_26 M c0 v1)) ∧ M2 = M) := by
  refine rs_begin (lv0 := [(0, .ref c0), (1, .int v1)]) (by decide) rfl (by rw [rm_26.1]; exact Nat.le_of_ble_eq_true rfl) rfl ?_
  refine rs_iload_n ri_26_0 rfl rfl ?_
  refine rs_if_lt (t := 30) ri_26_1 rfl rfl (fun h1 => ?_) (fun h1 => ?_)
  · skip
    refine rs_lconst (v := (0 : Int64)) ri_26_30 rfl rfl ?_
    refine rs_lret ri_26_31 rm_26.2.1 (by decide) ?_
    exact ⟨by unfold xf_26; first | (simp only [if_pos h1]; done) | rfl, by rfl⟩
  · skip
    refine rs_iload_n ri_26_4 rfl rfl ?_
    refine rs_aload_n ri_26_5 rfl rfl ?_
    refine rs_gf (v := .int (M.2.1 c0 2)) ri_26_6 rfl (ro_is4 hc0) (ro_kf (is_kd hL hc0)) rfl rfl ?_
    refine rs_icmp_ge (t := 30) ri_26_9 rfl rfl (fun h2 => ?_) (fun h2 => ?_)
    · skip
      refine rs_lconst (v := (0 : Int64)) ri_26_30 rfl rfl ?_
      refine rs_lret ri_26_31 rm_26.2.1 (by decide) ?_
      exact ⟨by unfold xf_26; first | (simp only [if_neg h1, if_pos h2]; done) | rfl, by rfl⟩
    · skip
      refine rs_iload_n ri_26_12 rfl rfl ?_
      refine rs_aload_n ri_26_13 rfl rfl ?_
      refine rs_gf (v := .ref (c0 + 1)) ri_26_14 rfl (ro_is4 hc0) (ro_kf (is_kd hL hc0)) rfl (is_r0 hL hc0) ?_
      refine rs_len (v := (60 : Int32)) ri_26_17 rfl (by have := ro_is4 hc0; omega) (is_kd1 hL hc0) (by decide) rfl ?_
      refine rs_icmp_ge (t := 30) ri_26_18 rfl rfl (fun h3 => ?_) (fun h3 => ?_)
      · skip
        refine rs_lconst (v := (0 : Int64)) ri_26_30 rfl rfl ?_
        refine rs_lret ri_26_31 rm_26.2.1 (by decide) ?_
        exact ⟨by unfold xf_26; first | (simp only [if_neg h1, if_neg h2, if_pos h3]; done) | rfl, by rfl⟩
      · skip
        refine rs_aload_n ri_26_21 rfl rfl ?_
        refine rs_gf (v := .ref (c0 + 1)) ri_26_22 rfl (ro_is4 hc0) (ro_kf (is_kd hL hc0)) rfl (is_r0 hL hc0) ?_
        refine rs_iload_n ri_26_25 rfl rfl ?_
        refine rs_lald (v := (M.2.2.1 (c0 + 1) (v1.toNatClampNeg))) ri_26_26 rfl (by have := ro_is4 hc0; omega) (is_kd1 hL hc0) (vp_in_iff.mpr ⟨(ro_lo1 h1), (ro_hi2 h3 (by decide))⟩) rfl ?_
        refine rs_goto (t := 31) ri_26_27 rfl ?_
        refine rs_lret ri_26_31 rm_26.2.1 (by decide) ?_
        exact ⟨by unfold xf_26; first | (simp only [if_neg h1, if_neg h2, if_neg h3]; done) | rfl, by rfl⟩
/-- RefusedOnce$Land.isPerson(I)Z -/
def xf_29 (M : ro_Mm) (v1 : Int32) : Bool := (if v1 < (0 : Int32) then false else (if (M.2.1 5 4) ≤ v1 then false else (if (6 : Int32) ≤ v1 then false else true)))
theorem xs_29 {X : ro_Sx} {M : ro_Mm} {v1 : Int32} (hL : ro_lay M) : ro_cwp X 1 29 [.ref 5, .int v1] M (fun v M2 => v = some (.int (ro_b (xf_29 M v1))) ∧ M2 = M) := by
  refine rs_begin (lv0 := [(0, .ref 5), (1, .int v1)]) (by decide) rfl (by rw [rm_29.1]; exact Nat.le_of_ble_eq_true rfl) rfl ?_
  refine rs_iload_n ri_29_0 rfl rfl ?_
  refine rs_if_lt (t := 22) ri_29_1 rfl rfl (fun h1 => ?_) (fun h1 => ?_)
  · skip
    refine rs_iconst (v := (0 : Int32)) ri_29_22 rfl (by decide) ?_
    refine rs_zret (p := false) ri_29_23 rm_29.2.1 (by decide) rfl ?_
    exact ⟨by unfold xf_29; first | (simp only [if_pos h1]; done) | rfl, by rfl⟩
  · skip
    refine rs_iload_n ri_29_4 rfl rfl ?_
    refine rs_aload_n ri_29_5 rfl rfl ?_
    refine rs_gf (v := .int (M.2.1 5 4)) ri_29_6 rfl (by decide) (ro_kf (kd_5 hL)) rfl rfl ?_
    refine rs_icmp_ge (t := 22) ri_29_9 rfl rfl (fun h2 => ?_) (fun h2 => ?_)
    · skip
      refine rs_iconst (v := (0 : Int32)) ri_29_22 rfl (by decide) ?_
      refine rs_zret (p := false) ri_29_23 rm_29.2.1 (by decide) rfl ?_
      exact ⟨by unfold xf_29; first | (simp only [if_neg h1, if_pos h2]; done) | rfl, by rfl⟩
    · skip
      refine rs_iload_n ri_29_12 rfl rfl ?_
      refine rs_bipush (v := (6 : Int32)) ri_29_13 rfl (by decide) ?_
      refine rs_icmp_ge (t := 22) ri_29_15 rfl rfl (fun h3 => ?_) (fun h3 => ?_)
      · skip
        refine rs_iconst (v := (0 : Int32)) ri_29_22 rfl (by decide) ?_
        refine rs_zret (p := false) ri_29_23 rm_29.2.1 (by decide) rfl ?_
        exact ⟨by unfold xf_29; first | (simp only [if_neg h1, if_neg h2, if_pos h3]; done) | rfl, by rfl⟩
      · skip
        refine rs_iconst (v := (1 : Int32)) ri_29_18 rfl (by decide) ?_
        refine rs_goto (t := 23) ri_29_19 rfl ?_
        refine rs_zret (p := true) ri_29_23 rm_29.2.1 (by decide) rfl ?_
        exact ⟨by unfold xf_29; first | (simp only [if_neg h1, if_neg h2, if_neg h3]; done) | rfl, by rfl⟩
/-- RefusedOnce$Purses.wholeOf(I)I -/
def xf_31 (M : ro_Mm) (c0 : Nat) (v1 : Int32) : Int32 := (if v1 < (0 : Int32) then (0 : Int32) else (if (6 : Int32) ≤ v1 then (0 : Int32) else (M.2.1 (c0 + 1) (v1.toNatClampNeg))))
theorem xs_31 {X : ro_Sx} {M : ro_Mm} {c0 : Nat} {v1 : Int32} (hL : ro_lay M) (hc0 : ro_ip c0) : ro_cwp X 1 31 [.ref c0, .int v1] M (fun v M2 => v = some (.int (xf_31 M c0 v1)) ∧ M2 = M) := by
  refine rs_begin (lv0 := [(0, .ref c0), (1, .int v1)]) (by decide) rfl (by rw [rm_31.1]; exact Nat.le_of_ble_eq_true rfl) rfl ?_
  refine rs_iload_n ri_31_0 rfl rfl ?_
  refine rs_if_lt (t := 22) ri_31_1 rfl rfl (fun h1 => ?_) (fun h1 => ?_)
  · skip
    refine rs_iconst (v := (0 : Int32)) ri_31_22 rfl (by decide) ?_
    refine rs_iret ri_31_23 rm_31.2.1 (by decide) ?_
    exact ⟨by unfold xf_31; first | (simp only [if_pos h1]; done) | rfl, by rfl⟩
  · skip
    refine rs_iload_n ri_31_4 rfl rfl ?_
    refine rs_aload_n ri_31_5 rfl rfl ?_
    refine rs_gf (v := .ref (c0 + 1)) ri_31_6 rfl (ro_ip4 hc0) (ro_kf (ip_kd hL hc0)) rfl (ip_r0 hL hc0) ?_
    refine rs_len (v := (6 : Int32)) ri_31_9 rfl (by have := ro_ip4 hc0; omega) (ip_kd1 hL hc0) (by decide) rfl ?_
    refine rs_icmp_ge (t := 22) ri_31_10 rfl rfl (fun h2 => ?_) (fun h2 => ?_)
    · skip
      refine rs_iconst (v := (0 : Int32)) ri_31_22 rfl (by decide) ?_
      refine rs_iret ri_31_23 rm_31.2.1 (by decide) ?_
      exact ⟨by unfold xf_31; first | (simp only [if_neg h1, if_pos h2]; done) | rfl, by rfl⟩
    · skip
      refine rs_aload_n ri_31_13 rfl rfl ?_
      refine rs_gf (v := .ref (c0 + 1)) ri_31_14 rfl (ro_ip4 hc0) (ro_kf (ip_kd hL hc0)) rfl (ip_r0 hL hc0) ?_
      refine rs_iload_n ri_31_17 rfl rfl ?_
      refine rs_iald (v := (M.2.1 (c0 + 1) (v1.toNatClampNeg))) ri_31_18 rfl (by have := ro_ip4 hc0; omega) (ip_kd1 hL hc0) (vp_in_iff.mpr ⟨(ro_lo1 h1), (ro_hi2 h2 (by decide))⟩) rfl ?_
      refine rs_goto (t := 23) ri_31_19 rfl ?_
      refine rs_iret ri_31_23 rm_31.2.1 (by decide) ?_
      exact ⟨by unfold xf_31; first | (simp only [if_neg h1, if_neg h2]; done) | rfl, by rfl⟩
/-- RefusedOnce$Purses.cutOf(I)I -/
def xf_32 (M : ro_Mm) (c0 : Nat) (v1 : Int32) : Int32 := (if v1 < (0 : Int32) then (0 : Int32) else (if (6 : Int32) ≤ v1 then (0 : Int32) else (M.2.1 (c0 + 2) (v1.toNatClampNeg))))
theorem xs_32 {X : ro_Sx} {M : ro_Mm} {c0 : Nat} {v1 : Int32} (hL : ro_lay M) (hc0 : ro_ip c0) : ro_cwp X 1 32 [.ref c0, .int v1] M (fun v M2 => v = some (.int (xf_32 M c0 v1)) ∧ M2 = M) := by
  refine rs_begin (lv0 := [(0, .ref c0), (1, .int v1)]) (by decide) rfl (by rw [rm_32.1]; exact Nat.le_of_ble_eq_true rfl) rfl ?_
  refine rs_iload_n ri_32_0 rfl rfl ?_
  refine rs_if_lt (t := 22) ri_32_1 rfl rfl (fun h1 => ?_) (fun h1 => ?_)
  · skip
    refine rs_iconst (v := (0 : Int32)) ri_32_22 rfl (by decide) ?_
    refine rs_iret ri_32_23 rm_32.2.1 (by decide) ?_
    exact ⟨by unfold xf_32; first | (simp only [if_pos h1]; done) | rfl, by rfl⟩
  · skip
    refine rs_iload_n ri_32_4 rfl rfl ?_
    refine rs_aload_n ri_32_5 rfl rfl ?_
    refine rs_gf (v := .ref (c0 + 2)) ri_32_6 rfl (ro_ip4 hc0) (ro_kf (ip_kd hL hc0)) rfl (ip_r1 hL hc0) ?_
    refine rs_len (v := (6 : Int32)) ri_32_9 rfl (by have := ro_ip4 hc0; omega) (ip_kd2 hL hc0) (by decide) rfl ?_
    refine rs_icmp_ge (t := 22) ri_32_10 rfl rfl (fun h2 => ?_) (fun h2 => ?_)
    · skip
      refine rs_iconst (v := (0 : Int32)) ri_32_22 rfl (by decide) ?_
      refine rs_iret ri_32_23 rm_32.2.1 (by decide) ?_
      exact ⟨by unfold xf_32; first | (simp only [if_neg h1, if_pos h2]; done) | rfl, by rfl⟩
    · skip
      refine rs_aload_n ri_32_13 rfl rfl ?_
      refine rs_gf (v := .ref (c0 + 2)) ri_32_14 rfl (ro_ip4 hc0) (ro_kf (ip_kd hL hc0)) rfl (ip_r1 hL hc0) ?_
      refine rs_iload_n ri_32_17 rfl rfl ?_
      refine rs_iald (v := (M.2.1 (c0 + 2) (v1.toNatClampNeg))) ri_32_18 rfl (by have := ro_ip4 hc0; omega) (ip_kd2 hL hc0) (vp_in_iff.mpr ⟨(ro_lo1 h1), (ro_hi2 h2 (by decide))⟩) rfl ?_
      refine rs_goto (t := 23) ri_32_19 rfl ?_
      refine rs_iret ri_32_23 rm_32.2.1 (by decide) ?_
      exact ⟨by unfold xf_32; first | (simp only [if_neg h1, if_neg h2]; done) | rfl, by rfl⟩
/-- RefusedOnce$Land.tell(III)V -/
def xm_33 (M : ro_Mm) (v1 : Int32) (v2 : Int32) (v3 : Int32) : ro_Mm := (if v2 = (0 : Int32) then (xm_16 M 6 v1 v3) else (if v2 = (1 : Int32) then (xm_17 M 6 v1 v3) else (if v2 = (2 : Int32) then (if v1 < (0 : Int32) then M else (if (6 : Int32) ≤ v1 then M else (ro_sI M 9 (v1.toNatClampNeg) v3))) else (if v2 = (3 : Int32) then (if v1 < (0 : Int32) then M else (if (6 : Int32) ≤ v1 then M else (ro_sI M 10 (v1.toNatClampNeg) v3))) else (if v2 = (4 : Int32) then (ro_sI M 5 5 v3) else (if v2 = (5 : Int32) then (ro_sI M 5 6 v3) else (if v2 = (6 : Int32) then (ro_sI M 5 7 v3) else M)))))))
theorem xs_33 {X : ro_Sx} {M : ro_Mm} {v1 : Int32} {v2 : Int32} {v3 : Int32} (hL : ro_lay M) : ro_cwp X 2 33 [.ref 5, .int v1, .int v2, .int v3] M (fun v M2 => v = none ∧ M2 = xm_33 M v1 v2 v3) := by
  refine rs_begin (lv0 := [(0, .ref 5), (1, .int v1), (2, .int v2), (3, .int v3)]) (by decide) rfl (by rw [rm_33.1]; exact Nat.le_of_ble_eq_true rfl) rfl ?_
  refine rs_iload_n ri_33_0 rfl rfl ?_
  by_cases h1 : v2 = (0 : Int32)
  · skip
    refine rs_swIn (o := 43) (t := 44) ri_33_1 (by rw [h1]; first | done | decide) (by rw [h1]; first | done | decide) (by rw [h1]; first | done | rfl) rfl ?_
    refine rs_aload_n ri_33_44 rfl rfl ?_
    refine rs_gf (v := .ref 6) ri_33_45 rfl (by decide) (ro_kf (kd_5 hL)) rfl (rf_5_0 hL) ?_
    refine rs_iload_n ri_33_48 rfl rfl ?_
    refine rs_iload_n ri_33_49 rfl rfl ?_
    refine rs_virt (As := [.int v1, .int v3]) (r := []) ri_33_50 rfl (by decide) rm_16.2.2.2 rm_16.2.2.1 rfl rfl rfl (by decide) (ro_kf (kd_6 hL)) (Nat.le_of_ble_eq_true rfl) (by decide) (by decide) (xs_16 (X := X) hL (by unfold ro_ip; decide)) ?_
    rintro _ _ ⟨e1, e2⟩
    rw [e1, e2]
    show ro_w X _ 33 _ 53 [(0, .ref 5), (1, .int v1), (2, .int v2), (3, .int v3)] [] (xm_16 M 6 v1 v3) (0, 0)
    refine rs_goto (t := 138) ri_33_53 rfl ?_
    refine rs_ret ri_33_138 rm_33.2.1 (by decide) ?_
    exact ⟨by rfl, by unfold xm_33; first | (simp only [if_pos h1]; done) | rfl⟩
  · skip
    by_cases h2 : v2 = (1 : Int32)
    · skip
      refine rs_swIn (o := 55) (t := 56) ri_33_1 (by rw [h2]; first | done | decide) (by rw [h2]; first | done | decide) (by rw [h2]; first | done | rfl) rfl ?_
      refine rs_aload_n ri_33_56 rfl rfl ?_
      refine rs_gf (v := .ref 6) ri_33_57 rfl (by decide) (ro_kf (kd_5 hL)) rfl (rf_5_0 hL) ?_
      refine rs_iload_n ri_33_60 rfl rfl ?_
      refine rs_iload_n ri_33_61 rfl rfl ?_
      refine rs_virt (As := [.int v1, .int v3]) (r := []) ri_33_62 rfl (by decide) rm_17.2.2.2 rm_17.2.2.1 rfl rfl rfl (by decide) (ro_kf (kd_6 hL)) (Nat.le_of_ble_eq_true rfl) (by decide) (by decide) (xs_17 (X := X) hL (by unfold ro_ip; decide)) ?_
      rintro _ _ ⟨e1, e2⟩
      rw [e1, e2]
      show ro_w X _ 33 _ 65 [(0, .ref 5), (1, .int v1), (2, .int v2), (3, .int v3)] [] (xm_17 M 6 v1 v3) (0, 0)
      refine rs_goto (t := 138) ri_33_65 rfl ?_
      refine rs_ret ri_33_138 rm_33.2.1 (by decide) ?_
      exact ⟨by rfl, by unfold xm_33; first | (simp only [if_neg h1, if_pos h2]; done) | rfl⟩
    · skip
      by_cases h3 : v2 = (2 : Int32)
      · skip
        refine rs_swIn (o := 67) (t := 68) ri_33_1 (by rw [h3]; first | done | decide) (by rw [h3]; first | done | decide) (by rw [h3]; first | done | rfl) rfl ?_
        refine rs_iload_n ri_33_68 rfl rfl ?_
        refine rs_if_lt (t := 138) ri_33_69 rfl rfl (fun h4 => ?_) (fun h4 => ?_)
        · skip
          refine rs_ret ri_33_138 rm_33.2.1 (by decide) ?_
          exact ⟨by rfl, by unfold xm_33; first | (simp only [if_neg h1, if_neg h2, if_pos h3, if_pos h4]; done) | rfl⟩
        · skip
          refine rs_iload_n ri_33_72 rfl rfl ?_
          refine rs_aload_n ri_33_73 rfl rfl ?_
          refine rs_gf (v := .ref 9) ri_33_74 rfl (by decide) (ro_kf (kd_5 hL)) rfl (rf_5_1 hL) ?_
          refine rs_len (v := (6 : Int32)) ri_33_77 rfl (by decide) (kd_9 hL) (by decide) rfl ?_
          refine rs_icmp_ge (t := 138) ri_33_78 rfl rfl (fun h5 => ?_) (fun h5 => ?_)
          · skip
            refine rs_ret ri_33_138 rm_33.2.1 (by decide) ?_
            exact ⟨by rfl, by unfold xm_33; first | (simp only [if_neg h1, if_neg h2, if_pos h3, if_neg h4, if_pos h5]; done) | rfl⟩
          · skip
            refine rs_aload_n ri_33_81 rfl rfl ?_
            refine rs_gf (v := .ref 9) ri_33_82 rfl (by decide) (ro_kf (kd_5 hL)) rfl (rf_5_1 hL) ?_
            refine rs_iload_n ri_33_85 rfl rfl ?_
            refine rs_iload_n ri_33_86 rfl rfl ?_
            refine rs_iast (j := v1.toNatClampNeg) ri_33_87 rfl (by decide) (kd_9 hL) (vp_in_iff.mpr ⟨(ro_lo1 h4), (ro_hi2 h5 (by decide))⟩) rfl ?_
            refine rs_goto (t := 138) ri_33_88 rfl ?_
            refine rs_ret ri_33_138 rm_33.2.1 (by decide) ?_
            exact ⟨by rfl, by unfold xm_33; first | (simp only [if_neg h1, if_neg h2, if_pos h3, if_neg h4, if_neg h5]; done) | rfl⟩
      · skip
        by_cases h6 : v2 = (3 : Int32)
        · skip
          refine rs_swIn (o := 90) (t := 91) ri_33_1 (by rw [h6]; first | done | decide) (by rw [h6]; first | done | decide) (by rw [h6]; first | done | rfl) rfl ?_
          refine rs_iload_n ri_33_91 rfl rfl ?_
          refine rs_if_lt (t := 138) ri_33_92 rfl rfl (fun h7 => ?_) (fun h7 => ?_)
          · skip
            refine rs_ret ri_33_138 rm_33.2.1 (by decide) ?_
            exact ⟨by rfl, by unfold xm_33; first | (simp only [if_neg h1, if_neg h2, if_neg h3, if_pos h6, if_pos h7]; done) | rfl⟩
          · skip
            refine rs_iload_n ri_33_95 rfl rfl ?_
            refine rs_aload_n ri_33_96 rfl rfl ?_
            refine rs_gf (v := .ref 10) ri_33_97 rfl (by decide) (ro_kf (kd_5 hL)) rfl (rf_5_2 hL) ?_
            refine rs_len (v := (6 : Int32)) ri_33_100 rfl (by decide) (kd_10 hL) (by decide) rfl ?_
            refine rs_icmp_ge (t := 138) ri_33_101 rfl rfl (fun h8 => ?_) (fun h8 => ?_)
            · skip
              refine rs_ret ri_33_138 rm_33.2.1 (by decide) ?_
              exact ⟨by rfl, by unfold xm_33; first | (simp only [if_neg h1, if_neg h2, if_neg h3, if_pos h6, if_neg h7, if_pos h8]; done) | rfl⟩
            · skip
              refine rs_aload_n ri_33_104 rfl rfl ?_
              refine rs_gf (v := .ref 10) ri_33_105 rfl (by decide) (ro_kf (kd_5 hL)) rfl (rf_5_2 hL) ?_
              refine rs_iload_n ri_33_108 rfl rfl ?_
              refine rs_iload_n ri_33_109 rfl rfl ?_
              refine rs_iast (j := v1.toNatClampNeg) ri_33_110 rfl (by decide) (kd_10 hL) (vp_in_iff.mpr ⟨(ro_lo1 h7), (ro_hi2 h8 (by decide))⟩) rfl ?_
              refine rs_goto (t := 138) ri_33_111 rfl ?_
              refine rs_ret ri_33_138 rm_33.2.1 (by decide) ?_
              exact ⟨by rfl, by unfold xm_33; first | (simp only [if_neg h1, if_neg h2, if_neg h3, if_pos h6, if_neg h7, if_neg h8]; done) | rfl⟩
        · skip
          by_cases h9 : v2 = (4 : Int32)
          · skip
            refine rs_swIn (o := 113) (t := 114) ri_33_1 (by rw [h9]; first | done | decide) (by rw [h9]; first | done | decide) (by rw [h9]; first | done | rfl) rfl ?_
            refine rs_aload_n ri_33_114 rfl rfl ?_
            refine rs_iload_n ri_33_115 rfl rfl ?_
            refine rs_pf (M2 := (ro_sI M 5 5 v3)) ri_33_116 rfl (by decide) (ro_kf (kd_5 hL)) (fun h => absurd h (by decide)) (fun f h => h) ?_
            refine rs_goto (t := 138) ri_33_119 rfl ?_
            refine rs_ret ri_33_138 rm_33.2.1 (by decide) ?_
            exact ⟨by rfl, by unfold xm_33; first | (simp only [if_neg h1, if_neg h2, if_neg h3, if_neg h6, if_pos h9]; done) | rfl⟩
          · skip
            by_cases h10 : v2 = (5 : Int32)
            · skip
              refine rs_swIn (o := 121) (t := 122) ri_33_1 (by rw [h10]; first | done | decide) (by rw [h10]; first | done | decide) (by rw [h10]; first | done | rfl) rfl ?_
              refine rs_aload_n ri_33_122 rfl rfl ?_
              refine rs_iload_n ri_33_123 rfl rfl ?_
              refine rs_pf (M2 := (ro_sI M 5 6 v3)) ri_33_124 rfl (by decide) (ro_kf (kd_5 hL)) (fun h => absurd h (by decide)) (fun f h => h) ?_
              refine rs_goto (t := 138) ri_33_127 rfl ?_
              refine rs_ret ri_33_138 rm_33.2.1 (by decide) ?_
              exact ⟨by rfl, by unfold xm_33; first | (simp only [if_neg h1, if_neg h2, if_neg h3, if_neg h6, if_neg h9, if_pos h10]; done) | rfl⟩
            · skip
              by_cases h11 : v2 = (6 : Int32)
              · skip
                refine rs_swIn (o := 129) (t := 130) ri_33_1 (by rw [h11]; first | done | decide) (by rw [h11]; first | done | decide) (by rw [h11]; first | done | rfl) rfl ?_
                refine rs_aload_n ri_33_130 rfl rfl ?_
                refine rs_iload_n ri_33_131 rfl rfl ?_
                refine rs_pf (M2 := (ro_sI M 5 7 v3)) ri_33_132 rfl (by decide) (ro_kf (kd_5 hL)) (fun h => absurd h (by decide)) (fun f h => h) ?_
                refine rs_goto (t := 138) ri_33_135 rfl ?_
                refine rs_ret ri_33_138 rm_33.2.1 (by decide) ?_
                exact ⟨by rfl, by unfold xm_33; first | (simp only [if_neg h1, if_neg h2, if_neg h3, if_neg h6, if_neg h9, if_neg h10, if_pos h11]; done) | rfl⟩
              · skip
                refine rs_swOut (t := 138) ri_33_1 (by have g0 := ro_ne_i (z := 0) h1 rfl; have g1 := ro_ne_i (z := 1) h2 rfl; have g2 := ro_ne_i (z := 2) h3 rfl; have g3 := ro_ne_i (z := 3) h6 rfl; have g4 := ro_ne_i (z := 4) h9 rfl; have g5 := ro_ne_i (z := 5) h10 rfl; have g6 := ro_ne_i (z := 6) h11 rfl; omega) rfl ?_
                refine rs_ret ri_33_138 rm_33.2.1 (by decide) ?_
                exact ⟨by rfl, by unfold xm_33; first | (simp only [if_neg h1, if_neg h2, if_neg h3, if_neg h6, if_neg h9, if_neg h10, if_neg h11]; done) | rfl⟩
theorem xl_33 {M : ro_Mm} {v1 : Int32} {v2 : Int32} {v3 : Int32} (hL : ro_lay M) : ro_lay (xm_33 M v1 v2 v3) := by
  unfold xm_33
  by_cases hz : v2 = (0 : Int32)
  · skip
    rw [if_pos hz]
    exact (xl_16 hL (by unfold ro_ip; decide))
  · skip
    rw [if_neg hz]
    by_cases hz : v2 = (1 : Int32)
    · skip
      rw [if_pos hz]
      exact (xl_17 hL (by unfold ro_ip; decide))
    · skip
      rw [if_neg hz]
      by_cases hz : v2 = (2 : Int32)
      · skip
        rw [if_pos hz]
        by_cases hz : v1 < (0 : Int32)
        · skip
          rw [if_pos hz]
          exact hL
        · skip
          rw [if_neg hz]
          by_cases hz : (6 : Int32) ≤ v1
          · skip
            rw [if_pos hz]
            exact hL
          · skip
            rw [if_neg hz]
            exact hL
      · skip
        rw [if_neg hz]
        by_cases hz : v2 = (3 : Int32)
        · skip
          rw [if_pos hz]
          by_cases hz : v1 < (0 : Int32)
          · skip
            rw [if_pos hz]
            exact hL
          · skip
            rw [if_neg hz]
            by_cases hz : (6 : Int32) ≤ v1
            · skip
              rw [if_pos hz]
              exact hL
            · skip
              rw [if_neg hz]
              exact hL
        · skip
          rw [if_neg hz]
          by_cases hz : v2 = (4 : Int32)
          · skip
            rw [if_pos hz]
            exact hL
          · skip
            rw [if_neg hz]
            by_cases hz : v2 = (5 : Int32)
            · skip
              rw [if_pos hz]
              exact hL
            · skip
              rw [if_neg hz]
              by_cases hz : v2 = (6 : Int32)
              · skip
                rw [if_pos hz]
                exact hL
              · skip
                rw [if_neg hz]
                exact hL
theorem xwI_33 {M : ro_Mm} {v1 : Int32} {v2 : Int32} {v3 : Int32} {c j : Nat} (n0 : c ≠ 7) (n1 : c ≠ 8) (n2 : c ≠ 9) (n3 : c ≠ 10) (n4 : c ≠ 5) : (xm_33 M v1 v2 v3).2.1 c j = M.2.1 c j := by
  unfold xm_33
  by_cases hz : v2 = (0 : Int32)
  · rw [if_pos hz]
    first | done | exact (xwI_16 n0)
  · rw [if_neg hz]
    by_cases hz : v2 = (1 : Int32)
    · rw [if_pos hz]
      first | done | exact (xwI_17 n1)
    · rw [if_neg hz]
      by_cases hz : v2 = (2 : Int32)
      · rw [if_pos hz]
        by_cases hz : v1 < (0 : Int32)
        · rw [if_pos hz]
          first | done | exact rfl
        · rw [if_neg hz]
          by_cases hz : (6 : Int32) ≤ v1
          · rw [if_pos hz]
            first | done | exact rfl
          · rw [if_neg hz]
            first | done | exact (ro_sI_ne n2)
      · rw [if_neg hz]
        by_cases hz : v2 = (3 : Int32)
        · rw [if_pos hz]
          by_cases hz : v1 < (0 : Int32)
          · rw [if_pos hz]
            first | done | exact rfl
          · rw [if_neg hz]
            by_cases hz : (6 : Int32) ≤ v1
            · rw [if_pos hz]
              first | done | exact rfl
            · rw [if_neg hz]
              first | done | exact (ro_sI_ne n3)
        · rw [if_neg hz]
          by_cases hz : v2 = (4 : Int32)
          · rw [if_pos hz]
            first | done | exact (ro_sI_ne n4)
          · rw [if_neg hz]
            by_cases hz : v2 = (5 : Int32)
            · rw [if_pos hz]
              first | done | exact (ro_sI_ne n4)
            · rw [if_neg hz]
              by_cases hz : v2 = (6 : Int32)
              · rw [if_pos hz]
                first | done | exact (ro_sI_ne n4)
              · rw [if_neg hz]
                first | done | exact rfl
theorem xwJ_33 {M : ro_Mm} {v1 : Int32} {v2 : Int32} {v3 : Int32} {c j : Nat} : (xm_33 M v1 v2 v3).2.2.1 c j = M.2.2.1 c j := by
  unfold xm_33
  by_cases hz : v2 = (0 : Int32)
  · rw [if_pos hz]
    first | done | exact (xwJ_16)
  · rw [if_neg hz]
    by_cases hz : v2 = (1 : Int32)
    · rw [if_pos hz]
      first | done | exact (xwJ_17)
    · rw [if_neg hz]
      by_cases hz : v2 = (2 : Int32)
      · rw [if_pos hz]
        by_cases hz : v1 < (0 : Int32)
        · rw [if_pos hz]
          first | done | exact rfl
        · rw [if_neg hz]
          by_cases hz : (6 : Int32) ≤ v1
          · rw [if_pos hz]
            first | done | exact rfl
          · rw [if_neg hz]
            first | done | exact rfl
      · rw [if_neg hz]
        by_cases hz : v2 = (3 : Int32)
        · rw [if_pos hz]
          by_cases hz : v1 < (0 : Int32)
          · rw [if_pos hz]
            first | done | exact rfl
          · rw [if_neg hz]
            by_cases hz : (6 : Int32) ≤ v1
            · rw [if_pos hz]
              first | done | exact rfl
            · rw [if_neg hz]
              first | done | exact rfl
        · rw [if_neg hz]
          by_cases hz : v2 = (4 : Int32)
          · rw [if_pos hz]
            first | done | exact rfl
          · rw [if_neg hz]
            by_cases hz : v2 = (5 : Int32)
            · rw [if_pos hz]
              first | done | exact rfl
            · rw [if_neg hz]
              by_cases hz : v2 = (6 : Int32)
              · rw [if_pos hz]
                first | done | exact rfl
              · rw [if_neg hz]
                first | done | exact rfl
/-- RefusedOnce$Land.farthingsBy(LRefusedOnce$Purses;II)I -/
def xf_38 (M : ro_Mm) (c0 : Nat) (v1 : Int32) (v2 : Int32) : Int32 := (((4 : Int32) * (xf_31 M c0 v1)) + (v2 * (xf_32 M c0 v1)))
theorem xs_38 {X : ro_Sx} {M : ro_Mm} {c0 : Nat} {v1 : Int32} {v2 : Int32} (hL : ro_lay M) (hc0 : ro_ip c0) : ro_cwp X 2 38 [.ref c0, .int v1, .int v2] M (fun v M2 => v = some (.int (xf_38 M c0 v1 v2)) ∧ M2 = M) := by
  refine rs_begin (lv0 := [(0, .ref c0), (1, .int v1), (2, .int v2)]) (by decide) rfl (by rw [rm_38.1]; exact Nat.le_of_ble_eq_true rfl) rfl ?_
  refine rs_iconst (v := (4 : Int32)) ri_38_0 rfl (by decide) ?_
  refine rs_aload_n ri_38_1 rfl rfl ?_
  refine rs_iload_n ri_38_2 rfl rfl ?_
  refine rs_virt (As := [.int v1]) (r := [.int (4 : Int32)]) ri_38_3 rfl (by decide) rm_31.2.2.2 rm_31.2.2.1 rfl rfl rfl (ro_ip4 hc0) (ro_kf (ip_kd hL hc0)) (Nat.le_of_ble_eq_true rfl) (by decide) (by decide) (xs_31 (X := X) hL hc0) ?_
  rintro _ _ ⟨e1, e2⟩
  rw [e1, e2]
  show ro_w X _ 38 _ 6 [(0, .ref c0), (1, .int v1), (2, .int v2)] [.int (xf_31 M c0 v1), .int (4 : Int32)] M (0, 0)
  refine rs_imul (r := ((4 : Int32) * (xf_31 M c0 v1))) ri_38_6 rfl rfl ?_
  refine rs_iload_n ri_38_7 rfl rfl ?_
  refine rs_aload_n ri_38_8 rfl rfl ?_
  refine rs_iload_n ri_38_9 rfl rfl ?_
  refine rs_virt (As := [.int v1]) (r := [.int v2, .int ((4 : Int32) * (xf_31 M c0 v1))]) ri_38_10 rfl (by decide) rm_32.2.2.2 rm_32.2.2.1 rfl rfl rfl (ro_ip4 hc0) (ro_kf (ip_kd hL hc0)) (Nat.le_of_ble_eq_true rfl) (by decide) (by decide) (xs_32 (X := X) hL hc0) ?_
  rintro _ _ ⟨e1, e2⟩
  rw [e1, e2]
  show ro_w X _ 38 _ 13 [(0, .ref c0), (1, .int v1), (2, .int v2)] [.int (xf_32 M c0 v1), .int v2, .int ((4 : Int32) * (xf_31 M c0 v1))] M (0, 0)
  refine rs_imul (r := (v2 * (xf_32 M c0 v1))) ri_38_13 rfl rfl ?_
  refine rs_iadd (r := (((4 : Int32) * (xf_31 M c0 v1)) + (v2 * (xf_32 M c0 v1)))) ri_38_14 rfl rfl ?_
  refine rs_iret ri_38_15 rm_38.2.1 (by decide) ?_
  exact ⟨by rfl, by rfl⟩
/-- RefusedOnce$Law.takesByte(I)Z -/
def xf_41 (M : ro_Mm) (v1 : Int32) : Bool := (if (M.2.1 16 5) < (0 : Int32) then false else (if (M.2.1 16 5) < (120 : Int32) then true else false))
def xm_41 (M : ro_Mm) (v1 : Int32) : ro_Mm := (if (M.2.1 16 5) < (0 : Int32) then M else (if (M.2.1 16 5) < (120 : Int32) then (ro_sI (ro_sI M 17 ((M.2.1 16 5).toNatClampNeg) v1) 16 5 ((M.2.1 16 5) + (1 : Int32))) else M))
theorem xs_41 {X : ro_Sx} {M : ro_Mm} {v1 : Int32} (hL : ro_lay M) : ro_cwp X 1 41 [.ref 16, .int v1] M (fun v M2 => v = some (.int (ro_b (xf_41 M v1))) ∧ M2 = xm_41 M v1) := by
  refine rs_begin (lv0 := [(0, .ref 16), (1, .int v1)]) (by decide) rfl (by rw [rm_41.1]; exact Nat.le_of_ble_eq_true rfl) rfl ?_
  refine rs_aload_n ri_41_0 rfl rfl ?_
  refine rs_gf (v := .int (M.2.1 16 5)) ri_41_1 rfl (by decide) (ro_kf (kd_16 hL)) rfl rfl ?_
  refine rs_if_lt (t := 19) ri_41_4 rfl rfl (fun h1 => ?_) (fun h1 => ?_)
  · skip
    refine rs_iconst (v := (0 : Int32)) ri_41_19 rfl (by decide) ?_
    refine rs_zret (p := false) ri_41_20 rm_41.2.1 (by decide) rfl ?_
    exact ⟨by unfold xf_41; first | (simp only [if_pos h1]; done) | rfl, by unfold xm_41; first | (simp only [if_pos h1]; done) | rfl⟩
  · skip
    refine rs_aload_n ri_41_7 rfl rfl ?_
    refine rs_gf (v := .int (M.2.1 16 5)) ri_41_8 rfl (by decide) (ro_kf (kd_16 hL)) rfl rfl ?_
    refine rs_aload_n ri_41_11 rfl rfl ?_
    refine rs_gf (v := .ref 17) ri_41_12 rfl (by decide) (ro_kf (kd_16 hL)) rfl (rf_16_0 hL) ?_
    refine rs_len (v := (120 : Int32)) ri_41_15 rfl (by decide) (kd_17 hL) (by decide) rfl ?_
    refine rs_icmp_lt (t := 21) ri_41_16 rfl rfl (fun h2 => ?_) (fun h2 => ?_)
    · skip
      refine rs_aload_n ri_41_21 rfl rfl ?_
      refine rs_gf (v := .ref 17) ri_41_22 rfl (by decide) (ro_kf (kd_16 hL)) rfl (rf_16_0 hL) ?_
      refine rs_aload_n ri_41_25 rfl rfl ?_
      refine rs_gf (v := .int (M.2.1 16 5)) ri_41_26 rfl (by decide) (ro_kf (kd_16 hL)) rfl rfl ?_
      refine rs_iload_n ri_41_29 rfl rfl ?_
      refine rs_iast (j := (M.2.1 16 5).toNatClampNeg) ri_41_30 rfl (by decide) (kd_17 hL) (vp_in_iff.mpr ⟨(ro_lo1 h1), (ro_hi1 h2 (by decide))⟩) rfl ?_
      refine rs_aload_n ri_41_31 rfl rfl ?_
      refine rs_dup ri_41_32 rfl rfl ?_
      refine rs_gf (v := .int (M.2.1 16 5)) ri_41_33 rfl (by decide) (ro_kf (kd_16 hL)) rfl rfl ?_
      refine rs_iconst (v := (1 : Int32)) ri_41_36 rfl (by decide) ?_
      refine rs_iadd (r := ((M.2.1 16 5) + (1 : Int32))) ri_41_37 rfl rfl ?_
      refine rs_pf (M2 := (ro_sI (ro_sI M 17 ((M.2.1 16 5).toNatClampNeg) v1) 16 5 ((M.2.1 16 5) + (1 : Int32)))) ri_41_38 rfl (by decide) (ro_kf (kd_16 hL)) (fun h => absurd h (by decide)) (fun f h => h) ?_
      refine rs_iconst (v := (1 : Int32)) ri_41_41 rfl (by decide) ?_
      refine rs_zret (p := true) ri_41_42 rm_41.2.1 (by decide) rfl ?_
      exact ⟨by unfold xf_41; first | (simp only [if_neg h1, if_pos h2]; done) | rfl, by unfold xm_41; first | (simp only [if_neg h1, if_pos h2]; done) | rfl⟩
    · skip
      refine rs_iconst (v := (0 : Int32)) ri_41_19 rfl (by decide) ?_
      refine rs_zret (p := false) ri_41_20 rm_41.2.1 (by decide) rfl ?_
      exact ⟨by unfold xf_41; first | (simp only [if_neg h1, if_neg h2]; done) | rfl, by unfold xm_41; first | (simp only [if_neg h1, if_neg h2]; done) | rfl⟩
theorem xl_41 {M : ro_Mm} {v1 : Int32} (hL : ro_lay M) : ro_lay (xm_41 M v1) := by
  unfold xm_41
  by_cases hz : (M.2.1 16 5) < (0 : Int32)
  · skip
    rw [if_pos hz]
    exact hL
  · skip
    rw [if_neg hz]
    by_cases hz : (M.2.1 16 5) < (120 : Int32)
    · skip
      rw [if_pos hz]
      exact hL
    · skip
      rw [if_neg hz]
      exact hL
theorem xwI_41 {M : ro_Mm} {v1 : Int32} {c j : Nat} (n0 : c ≠ 17) (n1 : c ≠ 16) : (xm_41 M v1).2.1 c j = M.2.1 c j := by
  unfold xm_41
  by_cases hz : (M.2.1 16 5) < (0 : Int32)
  · rw [if_pos hz]
    first | done | exact rfl
  · rw [if_neg hz]
    by_cases hz : (M.2.1 16 5) < (120 : Int32)
    · rw [if_pos hz]
      first | done | exact (((ro_sI_ne n1)).trans (ro_sI_ne n0))
    · rw [if_neg hz]
      first | done | exact rfl
theorem xwJ_41 {M : ro_Mm} {v1 : Int32} {c j : Nat} : (xm_41 M v1).2.2.1 c j = M.2.2.1 c j := by
  unfold xm_41
  by_cases hz : (M.2.1 16 5) < (0 : Int32)
  · rw [if_pos hz]
    first | done | exact rfl
  · rw [if_neg hz]
    by_cases hz : (M.2.1 16 5) < (120 : Int32)
    · rw [if_pos hz]
      first | done | exact rfl
    · rw [if_neg hz]
      first | done | exact rfl
/-- RefusedOnce$Law.fedBytes()I -/
def xf_42 (M : ro_Mm) : Int32 := (M.2.1 16 5)
theorem xs_42 {X : ro_Sx} {M : ro_Mm} (hL : ro_lay M) : ro_cwp X 1 42 [.ref 16] M (fun v M2 => v = some (.int (xf_42 M)) ∧ M2 = M) := by
  refine rs_begin (lv0 := [(0, .ref 16)]) (by decide) rfl (by rw [rm_42.1]; exact Nat.le_of_ble_eq_true rfl) rfl ?_
  refine rs_aload_n ri_42_0 rfl rfl ?_
  refine rs_gf (v := .int (M.2.1 16 5)) ri_42_1 rfl (by decide) (ro_kf (kd_16 hL)) rfl rfl ?_
  refine rs_iret ri_42_4 rm_42.2.1 (by decide) ?_
  exact ⟨by rfl, by rfl⟩
/-- RefusedOnce$Law.next()I -/
def xf_48 (M : ro_Mm) : Int32 := (if (M.2.1 16 6) < (0 : Int32) then (-1 : Int32) else (if (M.2.1 16 5) ≤ (M.2.1 16 6) then (-1 : Int32) else (if (120 : Int32) ≤ (M.2.1 16 6) then (-1 : Int32) else (M.2.1 17 ((M.2.1 16 6).toNatClampNeg)))))
theorem xs_48 {X : ro_Sx} {M : ro_Mm} (hL : ro_lay M) : ro_cwp X 1 48 [.ref 16] M (fun v M2 => v = some (.int (xf_48 M)) ∧ M2 = M) := by
  refine rs_begin (lv0 := [(0, .ref 16)]) (by decide) rfl (by rw [rm_48.1]; exact Nat.le_of_ble_eq_true rfl) rfl ?_
  refine rs_aload_n ri_48_0 rfl rfl ?_
  refine rs_gf (v := .int (M.2.1 16 6)) ri_48_1 rfl (by decide) (ro_kf (kd_16 hL)) rfl rfl ?_
  refine rs_if_lt (t := 42) ri_48_4 rfl rfl (fun h1 => ?_) (fun h1 => ?_)
  · skip
    refine rs_iconst (v := (-1 : Int32)) ri_48_42 rfl (by decide) ?_
    refine rs_iret ri_48_43 rm_48.2.1 (by decide) ?_
    exact ⟨by unfold xf_48; first | (simp only [if_pos h1]; done) | rfl, by rfl⟩
  · skip
    refine rs_aload_n ri_48_7 rfl rfl ?_
    refine rs_gf (v := .int (M.2.1 16 6)) ri_48_8 rfl (by decide) (ro_kf (kd_16 hL)) rfl rfl ?_
    refine rs_aload_n ri_48_11 rfl rfl ?_
    refine rs_gf (v := .int (M.2.1 16 5)) ri_48_12 rfl (by decide) (ro_kf (kd_16 hL)) rfl rfl ?_
    refine rs_icmp_ge (t := 42) ri_48_15 rfl rfl (fun h2 => ?_) (fun h2 => ?_)
    · skip
      refine rs_iconst (v := (-1 : Int32)) ri_48_42 rfl (by decide) ?_
      refine rs_iret ri_48_43 rm_48.2.1 (by decide) ?_
      exact ⟨by unfold xf_48; first | (simp only [if_neg h1, if_pos h2]; done) | rfl, by rfl⟩
    · skip
      refine rs_aload_n ri_48_18 rfl rfl ?_
      refine rs_gf (v := .int (M.2.1 16 6)) ri_48_19 rfl (by decide) (ro_kf (kd_16 hL)) rfl rfl ?_
      refine rs_aload_n ri_48_22 rfl rfl ?_
      refine rs_gf (v := .ref 17) ri_48_23 rfl (by decide) (ro_kf (kd_16 hL)) rfl (rf_16_0 hL) ?_
      refine rs_len (v := (120 : Int32)) ri_48_26 rfl (by decide) (kd_17 hL) (by decide) rfl ?_
      refine rs_icmp_ge (t := 42) ri_48_27 rfl rfl (fun h3 => ?_) (fun h3 => ?_)
      · skip
        refine rs_iconst (v := (-1 : Int32)) ri_48_42 rfl (by decide) ?_
        refine rs_iret ri_48_43 rm_48.2.1 (by decide) ?_
        exact ⟨by unfold xf_48; first | (simp only [if_neg h1, if_neg h2, if_pos h3]; done) | rfl, by rfl⟩
      · skip
        refine rs_aload_n ri_48_30 rfl rfl ?_
        refine rs_gf (v := .ref 17) ri_48_31 rfl (by decide) (ro_kf (kd_16 hL)) rfl (rf_16_0 hL) ?_
        refine rs_aload_n ri_48_34 rfl rfl ?_
        refine rs_gf (v := .int (M.2.1 16 6)) ri_48_35 rfl (by decide) (ro_kf (kd_16 hL)) rfl rfl ?_
        refine rs_iald (v := (M.2.1 17 ((M.2.1 16 6).toNatClampNeg))) ri_48_38 rfl (by decide) (kd_17 hL) (vp_in_iff.mpr ⟨(ro_lo1 h1), (ro_hi2 h3 (by decide))⟩) rfl ?_
        refine rs_goto (t := 43) ri_48_39 rfl ?_
        refine rs_iret ri_48_43 rm_48.2.1 (by decide) ?_
        exact ⟨by unfold xf_48; first | (simp only [if_neg h1, if_neg h2, if_neg h3]; done) | rfl, by rfl⟩
/-- RefusedOnce$Law.isDigit(I)Z -/
def xf_49 (M : ro_Mm) (v0 : Int32) : Bool := (if v0 < (48 : Int32) then false else (if (57 : Int32) < v0 then false else true))
theorem xs_49 {X : ro_Sx} {M : ro_Mm} {v0 : Int32} (hL : ro_lay M) : ro_cwp X 1 49 [.int v0] M (fun v M2 => v = some (.int (ro_b (xf_49 M v0))) ∧ M2 = M) := by
  refine rs_begin (lv0 := [(0, .int v0)]) (by decide) rfl (by rw [rm_49.1]; exact Nat.le_of_ble_eq_true rfl) rfl ?_
  refine rs_iload_n ri_49_0 rfl rfl ?_
  refine rs_bipush (v := (48 : Int32)) ri_49_1 rfl (by decide) ?_
  refine rs_icmp_lt (t := 16) ri_49_3 rfl rfl (fun h1 => ?_) (fun h1 => ?_)
  · skip
    refine rs_iconst (v := (0 : Int32)) ri_49_16 rfl (by decide) ?_
    refine rs_zret (p := false) ri_49_17 rm_49.2.1 (by decide) rfl ?_
    exact ⟨by unfold xf_49; first | (simp only [if_pos h1]; done) | rfl, by rfl⟩
  · skip
    refine rs_iload_n ri_49_6 rfl rfl ?_
    refine rs_bipush (v := (57 : Int32)) ri_49_7 rfl (by decide) ?_
    refine rs_icmp_gt (t := 16) ri_49_9 rfl rfl (fun h2 => ?_) (fun h2 => ?_)
    · skip
      refine rs_iconst (v := (0 : Int32)) ri_49_16 rfl (by decide) ?_
      refine rs_zret (p := false) ri_49_17 rm_49.2.1 (by decide) rfl ?_
      exact ⟨by unfold xf_49; first | (simp only [if_neg h1, if_pos h2]; done) | rfl, by rfl⟩
    · skip
      refine rs_iconst (v := (1 : Int32)) ri_49_12 rfl (by decide) ?_
      refine rs_goto (t := 17) ri_49_13 rfl ?_
      refine rs_zret (p := true) ri_49_17 rm_49.2.1 (by decide) rfl ?_
      exact ⟨by unfold xf_49; first | (simp only [if_neg h1, if_neg h2]; done) | rfl, by rfl⟩
/-- RefusedOnce$Law.write(I)V -/
def xm_51 (M : ro_Mm) (v1 : Int32) : ro_Mm := (if (M.2.1 16 7) < (0 : Int32) then M else (if (121 : Int32) ≤ (M.2.1 16 7) then M else (ro_sI (ro_sI M 18 ((M.2.1 16 7).toNatClampNeg) v1) 16 7 ((M.2.1 16 7) + (1 : Int32)))))
theorem xs_51 {X : ro_Sx} {M : ro_Mm} {v1 : Int32} (hL : ro_lay M) : ro_cwp X 1 51 [.ref 16, .int v1] M (fun v M2 => v = none ∧ M2 = xm_51 M v1) := by
  refine rs_begin (lv0 := [(0, .ref 16), (1, .int v1)]) (by decide) rfl (by rw [rm_51.1]; exact Nat.le_of_ble_eq_true rfl) rfl ?_
  refine rs_aload_n ri_51_0 rfl rfl ?_
  refine rs_gf (v := .int (M.2.1 16 7)) ri_51_1 rfl (by decide) (ro_kf (kd_16 hL)) rfl rfl ?_
  refine rs_if_lt (t := 39) ri_51_4 rfl rfl (fun h1 => ?_) (fun h1 => ?_)
  · skip
    refine rs_ret ri_51_39 rm_51.2.1 (by decide) ?_
    exact ⟨by rfl, by unfold xm_51; first | (simp only [if_pos h1]; done) | rfl⟩
  · skip
    refine rs_aload_n ri_51_7 rfl rfl ?_
    refine rs_gf (v := .int (M.2.1 16 7)) ri_51_8 rfl (by decide) (ro_kf (kd_16 hL)) rfl rfl ?_
    refine rs_aload_n ri_51_11 rfl rfl ?_
    refine rs_gf (v := .ref 18) ri_51_12 rfl (by decide) (ro_kf (kd_16 hL)) rfl (rf_16_1 hL) ?_
    refine rs_len (v := (121 : Int32)) ri_51_15 rfl (by decide) (kd_18 hL) (by decide) rfl ?_
    refine rs_icmp_ge (t := 39) ri_51_16 rfl rfl (fun h2 => ?_) (fun h2 => ?_)
    · skip
      refine rs_ret ri_51_39 rm_51.2.1 (by decide) ?_
      exact ⟨by rfl, by unfold xm_51; first | (simp only [if_neg h1, if_pos h2]; done) | rfl⟩
    · skip
      refine rs_aload_n ri_51_19 rfl rfl ?_
      refine rs_gf (v := .ref 18) ri_51_20 rfl (by decide) (ro_kf (kd_16 hL)) rfl (rf_16_1 hL) ?_
      refine rs_aload_n ri_51_23 rfl rfl ?_
      refine rs_gf (v := .int (M.2.1 16 7)) ri_51_24 rfl (by decide) (ro_kf (kd_16 hL)) rfl rfl ?_
      refine rs_iload_n ri_51_27 rfl rfl ?_
      refine rs_iast (j := (M.2.1 16 7).toNatClampNeg) ri_51_28 rfl (by decide) (kd_18 hL) (vp_in_iff.mpr ⟨(ro_lo1 h1), (ro_hi2 h2 (by decide))⟩) rfl ?_
      refine rs_aload_n ri_51_29 rfl rfl ?_
      refine rs_dup ri_51_30 rfl rfl ?_
      refine rs_gf (v := .int (M.2.1 16 7)) ri_51_31 rfl (by decide) (ro_kf (kd_16 hL)) rfl rfl ?_
      refine rs_iconst (v := (1 : Int32)) ri_51_34 rfl (by decide) ?_
      refine rs_iadd (r := ((M.2.1 16 7) + (1 : Int32))) ri_51_35 rfl rfl ?_
      refine rs_pf (M2 := (ro_sI (ro_sI M 18 ((M.2.1 16 7).toNatClampNeg) v1) 16 7 ((M.2.1 16 7) + (1 : Int32)))) ri_51_36 rfl (by decide) (ro_kf (kd_16 hL)) (fun h => absurd h (by decide)) (fun f h => h) ?_
      refine rs_ret ri_51_39 rm_51.2.1 (by decide) ?_
      exact ⟨by rfl, by unfold xm_51; first | (simp only [if_neg h1, if_neg h2]; done) | rfl⟩
theorem xl_51 {M : ro_Mm} {v1 : Int32} (hL : ro_lay M) : ro_lay (xm_51 M v1) := by
  unfold xm_51
  by_cases hz : (M.2.1 16 7) < (0 : Int32)
  · skip
    rw [if_pos hz]
    exact hL
  · skip
    rw [if_neg hz]
    by_cases hz : (121 : Int32) ≤ (M.2.1 16 7)
    · skip
      rw [if_pos hz]
      exact hL
    · skip
      rw [if_neg hz]
      exact hL
theorem xwI_51 {M : ro_Mm} {v1 : Int32} {c j : Nat} (n0 : c ≠ 18) (n1 : c ≠ 16) : (xm_51 M v1).2.1 c j = M.2.1 c j := by
  unfold xm_51
  by_cases hz : (M.2.1 16 7) < (0 : Int32)
  · rw [if_pos hz]
    first | done | exact rfl
  · rw [if_neg hz]
    by_cases hz : (121 : Int32) ≤ (M.2.1 16 7)
    · rw [if_pos hz]
      first | done | exact rfl
    · rw [if_neg hz]
      first | done | exact (((ro_sI_ne n1)).trans (ro_sI_ne n0))
theorem xwJ_51 {M : ro_Mm} {v1 : Int32} {c j : Nat} : (xm_51 M v1).2.2.1 c j = M.2.2.1 c j := by
  unfold xm_51
  by_cases hz : (M.2.1 16 7) < (0 : Int32)
  · rw [if_pos hz]
    first | done | exact rfl
  · rw [if_neg hz]
    by_cases hz : (121 : Int32) ≤ (M.2.1 16 7)
    · rw [if_pos hz]
      first | done | exact rfl
    · rw [if_neg hz]
      first | done | exact rfl
/-- RefusedOnce$Law.nameOf(I)I -/
def xf_52 (M : ro_Mm) (v0 : Int32) : Int32 := (if v0 = (98 : Int32) then (1 : Int32) else (if v0 = (99 : Int32) then (3 : Int32) else (if v0 = (104 : Int32) then (4 : Int32) else (if v0 = (110 : Int32) then (5 : Int32) else (if v0 = (112 : Int32) then (0 : Int32) else (if v0 = (119 : Int32) then (2 : Int32) else (-1 : Int32)))))))
theorem xs_52 {X : ro_Sx} {M : ro_Mm} {v0 : Int32} (hL : ro_lay M) : ro_cwp X 1 52 [.int v0] M (fun v M2 => v = some (.int (xf_52 M v0)) ∧ M2 = M) := by
  refine rs_begin (lv0 := [(0, .int v0)]) (by decide) rfl (by rw [rm_52.1]; exact Nat.le_of_ble_eq_true rfl) rfl ?_
  refine rs_iload_n ri_52_0 rfl rfl ?_
  by_cases h1 : v0 = (98 : Int32)
  · skip
    refine rs_look (t := 62) ri_52_1 (by decide) (by rw [h1]; first | done | rfl) rfl ?_
    refine rs_iconst (v := (1 : Int32)) ri_52_62 rfl (by decide) ?_
    refine rs_iret ri_52_63 rm_52.2.1 (by decide) ?_
    exact ⟨by unfold xf_52; first | (simp only [if_pos h1]; done) | rfl, by rfl⟩
  · skip
    by_cases h2 : v0 = (99 : Int32)
    · skip
      refine rs_look (t := 66) ri_52_1 (by decide) (by rw [h2]; first | done | rfl) rfl ?_
      refine rs_iconst (v := (3 : Int32)) ri_52_66 rfl (by decide) ?_
      refine rs_iret ri_52_67 rm_52.2.1 (by decide) ?_
      exact ⟨by unfold xf_52; first | (simp only [if_neg h1, if_pos h2]; done) | rfl, by rfl⟩
    · skip
      by_cases h3 : v0 = (104 : Int32)
      · skip
        refine rs_look (t := 68) ri_52_1 (by decide) (by rw [h3]; first | done | rfl) rfl ?_
        refine rs_iconst (v := (4 : Int32)) ri_52_68 rfl (by decide) ?_
        refine rs_iret ri_52_69 rm_52.2.1 (by decide) ?_
        exact ⟨by unfold xf_52; first | (simp only [if_neg h1, if_neg h2, if_pos h3]; done) | rfl, by rfl⟩
      · skip
        by_cases h4 : v0 = (110 : Int32)
        · skip
          refine rs_look (t := 70) ri_52_1 (by decide) (by rw [h4]; first | done | rfl) rfl ?_
          refine rs_iconst (v := (5 : Int32)) ri_52_70 rfl (by decide) ?_
          refine rs_iret ri_52_71 rm_52.2.1 (by decide) ?_
          exact ⟨by unfold xf_52; first | (simp only [if_neg h1, if_neg h2, if_neg h3, if_pos h4]; done) | rfl, by rfl⟩
        · skip
          by_cases h5 : v0 = (112 : Int32)
          · skip
            refine rs_look (t := 60) ri_52_1 (by decide) (by rw [h5]; first | done | rfl) rfl ?_
            refine rs_iconst (v := (0 : Int32)) ri_52_60 rfl (by decide) ?_
            refine rs_iret ri_52_61 rm_52.2.1 (by decide) ?_
            exact ⟨by unfold xf_52; first | (simp only [if_neg h1, if_neg h2, if_neg h3, if_neg h4, if_pos h5]; done) | rfl, by rfl⟩
          · skip
            by_cases h6 : v0 = (119 : Int32)
            · skip
              refine rs_look (t := 64) ri_52_1 (by decide) (by rw [h6]; first | done | rfl) rfl ?_
              refine rs_iconst (v := (2 : Int32)) ri_52_64 rfl (by decide) ?_
              refine rs_iret ri_52_65 rm_52.2.1 (by decide) ?_
              exact ⟨by unfold xf_52; first | (simp only [if_neg h1, if_neg h2, if_neg h3, if_neg h4, if_neg h5, if_pos h6]; done) | rfl, by rfl⟩
            · skip
              refine rs_look (t := 72) ri_52_1 (by decide) ((lv_osw h1 rfl).trans ((lv_osw h2 rfl).trans ((lv_osw h3 rfl).trans ((lv_osw h4 rfl).trans ((lv_osw h5 rfl).trans ((lv_osw h6 rfl).trans rfl)))))) rfl ?_
              refine rs_iconst (v := (-1 : Int32)) ri_52_72 rfl (by decide) ?_
              refine rs_iret ri_52_73 rm_52.2.1 (by decide) ?_
              exact ⟨by unfold xf_52; first | (simp only [if_neg h1, if_neg h2, if_neg h3, if_neg h4, if_neg h5, if_neg h6]; done) | rfl, by rfl⟩
/-- RefusedOnce$Law.joins(II)Z -/
def xf_54 (M : ro_Mm) (v0 : Int32) (v1 : Int32) : Bool := (if v1 = (37 : Int32) then (if v0 = (4 : Int32) then true else false) else (if v1 = (38 : Int32) then (if v0 = (1 : Int32) then true else false) else (if v1 = (42 : Int32) then (if v0 = (4 : Int32) then true else false) else (if v1 = (43 : Int32) then (if v0 = (3 : Int32) then true else false) else (if v1 = (45 : Int32) then (if v0 = (3 : Int32) then true else false) else (if v1 = (47 : Int32) then (if v0 = (4 : Int32) then true else false) else (if v1 = (60 : Int32) then (if v0 = (2 : Int32) then true else false) else (if v1 = (61 : Int32) then (if v0 = (2 : Int32) then true else false) else (if v1 = (62 : Int32) then (if v0 = (2 : Int32) then true else false) else (if v1 = (124 : Int32) then (if v0 = (0 : Int32) then true else false) else false))))))))))
theorem xs_54 {X : ro_Sx} {M : ro_Mm} {v0 : Int32} {v1 : Int32} (hL : ro_lay M) : ro_cwp X 1 54 [.int v0, .int v1] M (fun v M2 => v = some (.int (ro_b (xf_54 M v0 v1))) ∧ M2 = M) := by
  refine rs_begin (lv0 := [(0, .int v0), (1, .int v1)]) (by decide) rfl (by rw [rm_54.1]; exact Nat.le_of_ble_eq_true rfl) rfl ?_
  refine rs_iload_n ri_54_0 rfl rfl ?_
  by_cases h1 : v1 = (37 : Int32)
  · skip
    refine rs_look (t := 135) ri_54_1 (by decide) (by rw [h1]; first | done | rfl) rfl ?_
    refine rs_iload_n ri_54_135 rfl rfl ?_
    refine rs_iconst (v := (4 : Int32)) ri_54_136 rfl (by decide) ?_
    refine rs_icmp_ne (t := 144) ri_54_137 rfl rfl (fun h2 => ?_) (fun h2 => ?_)
    · skip
      refine rs_iconst (v := (0 : Int32)) ri_54_144 rfl (by decide) ?_
      refine rs_zret (p := false) ri_54_145 rm_54.2.1 (by decide) rfl ?_
      exact ⟨by unfold xf_54; first | (simp only [if_pos h1, if_neg h2]; done) | rfl, by rfl⟩
    · skip
      refine rs_iconst (v := (1 : Int32)) ri_54_140 rfl (by decide) ?_
      refine rs_goto (t := 145) ri_54_141 rfl ?_
      refine rs_zret (p := true) ri_54_145 rm_54.2.1 (by decide) rfl ?_
      exact ⟨by unfold xf_54; first | (simp only [if_pos h1, if_pos h2]; done) | rfl, by rfl⟩
  · skip
    by_cases h3 : v1 = (38 : Int32)
    · skip
      refine rs_look (t := 102) ri_54_1 (by decide) (by rw [h3]; first | done | rfl) rfl ?_
      refine rs_iload_n ri_54_102 rfl rfl ?_
      refine rs_iconst (v := (1 : Int32)) ri_54_103 rfl (by decide) ?_
      refine rs_icmp_ne (t := 111) ri_54_104 rfl rfl (fun h4 => ?_) (fun h4 => ?_)
      · skip
        refine rs_iconst (v := (0 : Int32)) ri_54_111 rfl (by decide) ?_
        refine rs_zret (p := false) ri_54_112 rm_54.2.1 (by decide) rfl ?_
        exact ⟨by unfold xf_54; first | (simp only [if_neg h1, if_pos h3, if_neg h4]; done) | rfl, by rfl⟩
      · skip
        refine rs_iconst (v := (1 : Int32)) ri_54_107 rfl (by decide) ?_
        refine rs_goto (t := 112) ri_54_108 rfl ?_
        refine rs_zret (p := true) ri_54_112 rm_54.2.1 (by decide) rfl ?_
        exact ⟨by unfold xf_54; first | (simp only [if_neg h1, if_pos h3, if_pos h4]; done) | rfl, by rfl⟩
    · skip
      by_cases h5 : v1 = (42 : Int32)
      · skip
        refine rs_look (t := 135) ri_54_1 (by decide) (by rw [h5]; first | done | rfl) rfl ?_
        refine rs_iload_n ri_54_135 rfl rfl ?_
        refine rs_iconst (v := (4 : Int32)) ri_54_136 rfl (by decide) ?_
        refine rs_icmp_ne (t := 144) ri_54_137 rfl rfl (fun h6 => ?_) (fun h6 => ?_)
        · skip
          refine rs_iconst (v := (0 : Int32)) ri_54_144 rfl (by decide) ?_
          refine rs_zret (p := false) ri_54_145 rm_54.2.1 (by decide) rfl ?_
          exact ⟨by unfold xf_54; first | (simp only [if_neg h1, if_neg h3, if_pos h5, if_neg h6]; done) | rfl, by rfl⟩
        · skip
          refine rs_iconst (v := (1 : Int32)) ri_54_140 rfl (by decide) ?_
          refine rs_goto (t := 145) ri_54_141 rfl ?_
          refine rs_zret (p := true) ri_54_145 rm_54.2.1 (by decide) rfl ?_
          exact ⟨by unfold xf_54; first | (simp only [if_neg h1, if_neg h3, if_pos h5, if_pos h6]; done) | rfl, by rfl⟩
      · skip
        by_cases h7 : v1 = (43 : Int32)
        · skip
          refine rs_look (t := 124) ri_54_1 (by decide) (by rw [h7]; first | done | rfl) rfl ?_
          refine rs_iload_n ri_54_124 rfl rfl ?_
          refine rs_iconst (v := (3 : Int32)) ri_54_125 rfl (by decide) ?_
          refine rs_icmp_ne (t := 133) ri_54_126 rfl rfl (fun h8 => ?_) (fun h8 => ?_)
          · skip
            refine rs_iconst (v := (0 : Int32)) ri_54_133 rfl (by decide) ?_
            refine rs_zret (p := false) ri_54_134 rm_54.2.1 (by decide) rfl ?_
            exact ⟨by unfold xf_54; first | (simp only [if_neg h1, if_neg h3, if_neg h5, if_pos h7, if_neg h8]; done) | rfl, by rfl⟩
          · skip
            refine rs_iconst (v := (1 : Int32)) ri_54_129 rfl (by decide) ?_
            refine rs_goto (t := 134) ri_54_130 rfl ?_
            refine rs_zret (p := true) ri_54_134 rm_54.2.1 (by decide) rfl ?_
            exact ⟨by unfold xf_54; first | (simp only [if_neg h1, if_neg h3, if_neg h5, if_pos h7, if_pos h8]; done) | rfl, by rfl⟩
        · skip
          by_cases h9 : v1 = (45 : Int32)
          · skip
            refine rs_look (t := 124) ri_54_1 (by decide) (by rw [h9]; first | done | rfl) rfl ?_
            refine rs_iload_n ri_54_124 rfl rfl ?_
            refine rs_iconst (v := (3 : Int32)) ri_54_125 rfl (by decide) ?_
            refine rs_icmp_ne (t := 133) ri_54_126 rfl rfl (fun h10 => ?_) (fun h10 => ?_)
            · skip
              refine rs_iconst (v := (0 : Int32)) ri_54_133 rfl (by decide) ?_
              refine rs_zret (p := false) ri_54_134 rm_54.2.1 (by decide) rfl ?_
              exact ⟨by unfold xf_54; first | (simp only [if_neg h1, if_neg h3, if_neg h5, if_neg h7, if_pos h9, if_neg h10]; done) | rfl, by rfl⟩
            · skip
              refine rs_iconst (v := (1 : Int32)) ri_54_129 rfl (by decide) ?_
              refine rs_goto (t := 134) ri_54_130 rfl ?_
              refine rs_zret (p := true) ri_54_134 rm_54.2.1 (by decide) rfl ?_
              exact ⟨by unfold xf_54; first | (simp only [if_neg h1, if_neg h3, if_neg h5, if_neg h7, if_pos h9, if_pos h10]; done) | rfl, by rfl⟩
          · skip
            by_cases h11 : v1 = (47 : Int32)
            · skip
              refine rs_look (t := 135) ri_54_1 (by decide) (by rw [h11]; first | done | rfl) rfl ?_
              refine rs_iload_n ri_54_135 rfl rfl ?_
              refine rs_iconst (v := (4 : Int32)) ri_54_136 rfl (by decide) ?_
              refine rs_icmp_ne (t := 144) ri_54_137 rfl rfl (fun h12 => ?_) (fun h12 => ?_)
              · skip
                refine rs_iconst (v := (0 : Int32)) ri_54_144 rfl (by decide) ?_
                refine rs_zret (p := false) ri_54_145 rm_54.2.1 (by decide) rfl ?_
                exact ⟨by unfold xf_54; first | (simp only [if_neg h1, if_neg h3, if_neg h5, if_neg h7, if_neg h9, if_pos h11, if_neg h12]; done) | rfl, by rfl⟩
              · skip
                refine rs_iconst (v := (1 : Int32)) ri_54_140 rfl (by decide) ?_
                refine rs_goto (t := 145) ri_54_141 rfl ?_
                refine rs_zret (p := true) ri_54_145 rm_54.2.1 (by decide) rfl ?_
                exact ⟨by unfold xf_54; first | (simp only [if_neg h1, if_neg h3, if_neg h5, if_neg h7, if_neg h9, if_pos h11, if_pos h12]; done) | rfl, by rfl⟩
            · skip
              by_cases h13 : v1 = (60 : Int32)
              · skip
                refine rs_look (t := 113) ri_54_1 (by decide) (by rw [h13]; first | done | rfl) rfl ?_
                refine rs_iload_n ri_54_113 rfl rfl ?_
                refine rs_iconst (v := (2 : Int32)) ri_54_114 rfl (by decide) ?_
                refine rs_icmp_ne (t := 122) ri_54_115 rfl rfl (fun h14 => ?_) (fun h14 => ?_)
                · skip
                  refine rs_iconst (v := (0 : Int32)) ri_54_122 rfl (by decide) ?_
                  refine rs_zret (p := false) ri_54_123 rm_54.2.1 (by decide) rfl ?_
                  exact ⟨by unfold xf_54; first | (simp only [if_neg h1, if_neg h3, if_neg h5, if_neg h7, if_neg h9, if_neg h11, if_pos h13, if_neg h14]; done) | rfl, by rfl⟩
                · skip
                  refine rs_iconst (v := (1 : Int32)) ri_54_118 rfl (by decide) ?_
                  refine rs_goto (t := 123) ri_54_119 rfl ?_
                  refine rs_zret (p := true) ri_54_123 rm_54.2.1 (by decide) rfl ?_
                  exact ⟨by unfold xf_54; first | (simp only [if_neg h1, if_neg h3, if_neg h5, if_neg h7, if_neg h9, if_neg h11, if_pos h13, if_pos h14]; done) | rfl, by rfl⟩
              · skip
                by_cases h15 : v1 = (61 : Int32)
                · skip
                  refine rs_look (t := 113) ri_54_1 (by decide) (by rw [h15]; first | done | rfl) rfl ?_
                  refine rs_iload_n ri_54_113 rfl rfl ?_
                  refine rs_iconst (v := (2 : Int32)) ri_54_114 rfl (by decide) ?_
                  refine rs_icmp_ne (t := 122) ri_54_115 rfl rfl (fun h16 => ?_) (fun h16 => ?_)
                  · skip
                    refine rs_iconst (v := (0 : Int32)) ri_54_122 rfl (by decide) ?_
                    refine rs_zret (p := false) ri_54_123 rm_54.2.1 (by decide) rfl ?_
                    exact ⟨by unfold xf_54; first | (simp only [if_neg h1, if_neg h3, if_neg h5, if_neg h7, if_neg h9, if_neg h11, if_neg h13, if_pos h15, if_neg h16]; done) | rfl, by rfl⟩
                  · skip
                    refine rs_iconst (v := (1 : Int32)) ri_54_118 rfl (by decide) ?_
                    refine rs_goto (t := 123) ri_54_119 rfl ?_
                    refine rs_zret (p := true) ri_54_123 rm_54.2.1 (by decide) rfl ?_
                    exact ⟨by unfold xf_54; first | (simp only [if_neg h1, if_neg h3, if_neg h5, if_neg h7, if_neg h9, if_neg h11, if_neg h13, if_pos h15, if_pos h16]; done) | rfl, by rfl⟩
                · skip
                  by_cases h17 : v1 = (62 : Int32)
                  · skip
                    refine rs_look (t := 113) ri_54_1 (by decide) (by rw [h17]; first | done | rfl) rfl ?_
                    refine rs_iload_n ri_54_113 rfl rfl ?_
                    refine rs_iconst (v := (2 : Int32)) ri_54_114 rfl (by decide) ?_
                    refine rs_icmp_ne (t := 122) ri_54_115 rfl rfl (fun h18 => ?_) (fun h18 => ?_)
                    · skip
                      refine rs_iconst (v := (0 : Int32)) ri_54_122 rfl (by decide) ?_
                      refine rs_zret (p := false) ri_54_123 rm_54.2.1 (by decide) rfl ?_
                      exact ⟨by unfold xf_54; first | (simp only [if_neg h1, if_neg h3, if_neg h5, if_neg h7, if_neg h9, if_neg h11, if_neg h13, if_neg h15, if_pos h17, if_neg h18]; done) | rfl, by rfl⟩
                    · skip
                      refine rs_iconst (v := (1 : Int32)) ri_54_118 rfl (by decide) ?_
                      refine rs_goto (t := 123) ri_54_119 rfl ?_
                      refine rs_zret (p := true) ri_54_123 rm_54.2.1 (by decide) rfl ?_
                      exact ⟨by unfold xf_54; first | (simp only [if_neg h1, if_neg h3, if_neg h5, if_neg h7, if_neg h9, if_neg h11, if_neg h13, if_neg h15, if_pos h17, if_pos h18]; done) | rfl, by rfl⟩
                  · skip
                    by_cases h19 : v1 = (124 : Int32)
                    · skip
                      refine rs_look (t := 92) ri_54_1 (by decide) (by rw [h19]; first | done | rfl) rfl ?_
                      refine rs_iload_n ri_54_92 rfl rfl ?_
                      refine rs_if_ne (t := 100) ri_54_93 rfl rfl (fun h20 => ?_) (fun h20 => ?_)
                      · skip
                        refine rs_iconst (v := (0 : Int32)) ri_54_100 rfl (by decide) ?_
                        refine rs_zret (p := false) ri_54_101 rm_54.2.1 (by decide) rfl ?_
                        exact ⟨by unfold xf_54; first | (simp only [if_neg h1, if_neg h3, if_neg h5, if_neg h7, if_neg h9, if_neg h11, if_neg h13, if_neg h15, if_neg h17, if_pos h19, if_neg h20]; done) | rfl, by rfl⟩
                      · skip
                        refine rs_iconst (v := (1 : Int32)) ri_54_96 rfl (by decide) ?_
                        refine rs_goto (t := 101) ri_54_97 rfl ?_
                        refine rs_zret (p := true) ri_54_101 rm_54.2.1 (by decide) rfl ?_
                        exact ⟨by unfold xf_54; first | (simp only [if_neg h1, if_neg h3, if_neg h5, if_neg h7, if_neg h9, if_neg h11, if_neg h13, if_neg h15, if_neg h17, if_pos h19, if_pos h20]; done) | rfl, by rfl⟩
                    · skip
                      refine rs_look (t := 146) ri_54_1 (by decide) ((lv_osw h1 rfl).trans ((lv_osw h3 rfl).trans ((lv_osw h5 rfl).trans ((lv_osw h7 rfl).trans ((lv_osw h9 rfl).trans ((lv_osw h11 rfl).trans ((lv_osw h13 rfl).trans ((lv_osw h15 rfl).trans ((lv_osw h17 rfl).trans ((lv_osw h19 rfl).trans rfl)))))))))) rfl ?_
                      refine rs_iconst (v := (0 : Int32)) ri_54_146 rfl (by decide) ?_
                      refine rs_zret (p := false) ri_54_147 rm_54.2.1 (by decide) rfl ?_
                      exact ⟨by unfold xf_54; first | (simp only [if_neg h1, if_neg h3, if_neg h5, if_neg h7, if_neg h9, if_neg h11, if_neg h13, if_neg h15, if_neg h17, if_neg h19]; done) | rfl, by rfl⟩
/-- RefusedOnce$Land.areTwo(II)Z -/
def xf_57 (M : ro_Mm) (v1 : Int32) (v2 : Int32) : Bool := (if v1 = v2 then false else (if (xf_29 M v1) then (if (xf_29 M v2) then true else false) else false))
theorem xs_57 {X : ro_Sx} {M : ro_Mm} {v1 : Int32} {v2 : Int32} (hL : ro_lay M) : ro_cwp X 2 57 [.ref 5, .int v1, .int v2] M (fun v M2 => v = some (.int (ro_b (xf_57 M v1 v2))) ∧ M2 = M) := by
  refine rs_begin (lv0 := [(0, .ref 5), (1, .int v1), (2, .int v2)]) (by decide) rfl (by rw [rm_57.1]; exact Nat.le_of_ble_eq_true rfl) rfl ?_
  refine rs_iload_n ri_57_0 rfl rfl ?_
  refine rs_iload_n ri_57_1 rfl rfl ?_
  refine rs_icmp_eq (t := 25) ri_57_2 rfl rfl (fun h1 => ?_) (fun h1 => ?_)
  · skip
    refine rs_iconst (v := (0 : Int32)) ri_57_25 rfl (by decide) ?_
    refine rs_zret (p := false) ri_57_26 rm_57.2.1 (by decide) rfl ?_
    exact ⟨by unfold xf_57; first | (simp only [if_pos h1]; done) | rfl, by rfl⟩
  · skip
    refine rs_aload_n ri_57_5 rfl rfl ?_
    refine rs_iload_n ri_57_6 rfl rfl ?_
    refine rs_virt (As := [.int v1]) (r := []) ri_57_7 rfl (by decide) rm_29.2.2.2 rm_29.2.2.1 rfl rfl rfl (by decide) (ro_kf (kd_5 hL)) (Nat.le_of_ble_eq_true rfl) (by decide) (by decide) (xs_29 (X := X) hL) ?_
    rintro _ _ ⟨e1, e2⟩
    rw [e1, e2]
    show ro_w X _ 57 _ 10 [(0, .ref 5), (1, .int v1), (2, .int v2)] [.int (ro_b (xf_29 M v1))] M (0, 0)
    refine rs_ifeq_c (t := 25) ri_57_10 rfl rfl (fun h2 => ?_) (fun h2 => ?_)
    · skip
      refine rs_iconst (v := (0 : Int32)) ri_57_25 rfl (by decide) ?_
      refine rs_zret (p := false) ri_57_26 rm_57.2.1 (by decide) rfl ?_
      exact ⟨by unfold xf_57; first | (simp only [if_neg h1, if_neg h2]; done) | rfl, by rfl⟩
    · skip
      refine rs_aload_n ri_57_13 rfl rfl ?_
      refine rs_iload_n ri_57_14 rfl rfl ?_
      refine rs_virt (As := [.int v2]) (r := []) ri_57_15 rfl (by decide) rm_29.2.2.2 rm_29.2.2.1 rfl rfl rfl (by decide) (ro_kf (kd_5 hL)) (Nat.le_of_ble_eq_true rfl) (by decide) (by decide) (xs_29 (X := X) hL) ?_
      rintro _ _ ⟨e1, e2⟩
      rw [e1, e2]
      show ro_w X _ 57 _ 18 [(0, .ref 5), (1, .int v1), (2, .int v2)] [.int (ro_b (xf_29 M v2))] M (0, 0)
      refine rs_ifeq_c (t := 25) ri_57_18 rfl rfl (fun h3 => ?_) (fun h3 => ?_)
      · skip
        refine rs_iconst (v := (0 : Int32)) ri_57_25 rfl (by decide) ?_
        refine rs_zret (p := false) ri_57_26 rm_57.2.1 (by decide) rfl ?_
        exact ⟨by unfold xf_57; first | (simp only [if_neg h1, if_pos h2, if_neg h3]; done) | rfl, by rfl⟩
      · skip
        refine rs_iconst (v := (1 : Int32)) ri_57_21 rfl (by decide) ?_
        refine rs_goto (t := 26) ri_57_22 rfl ?_
        refine rs_zret (p := true) ri_57_26 rm_57.2.1 (by decide) rfl ?_
        exact ⟨by unfold xf_57; first | (simp only [if_neg h1, if_pos h2, if_pos h3]; done) | rfl, by rfl⟩
/-- RefusedOnce$Law.held(I)I -/
def xf_59 (M : ro_Mm) (v0 : Int32) : Int32 := (ro_max (0 : Int32) (ro_min (12 : Int32) v0))
theorem xs_59 {X : ro_Sx} {M : ro_Mm} {v0 : Int32} (hL : ro_lay M) : ro_cwp X 1 59 [.int v0] M (fun v M2 => v = some (.int (xf_59 M v0)) ∧ M2 = M) := by
  refine rs_begin (lv0 := [(0, .int v0)]) (by decide) rfl (by rw [rm_59.1]; exact Nat.le_of_ble_eq_true rfl) rfl ?_
  refine rs_iconst (v := (0 : Int32)) ri_59_0 rfl (by decide) ?_
  refine rs_bipush (v := (12 : Int32)) ri_59_1 rfl (by decide) ?_
  refine rs_iload_n ri_59_3 rfl rfl ?_
  refine rs_min (r := (ro_min (12 : Int32) v0)) ri_59_4 rfl (Nat.le_of_ble_eq_true rfl) rfl ?_
  refine rs_max (r := (ro_max (0 : Int32) (ro_min (12 : Int32) v0))) ri_59_7 rfl (Nat.le_of_ble_eq_true rfl) rfl ?_
  refine rs_iret ri_59_10 rm_59.2.1 (by decide) ?_
  exact ⟨by rfl, by rfl⟩
/-- RefusedOnce$Law.pop()I -/
def xf_61 (M : ro_Mm) : Int32 := (if (M.2.1 16 9) ≤ (0 : Int32) then (0 : Int32) else (if (M.2.1 16 9) ≤ (121 : Int32) then (M.2.1 20 (((M.2.1 16 9) - (1 : Int32)).toNatClampNeg)) else (0 : Int32)))
def xm_61 (M : ro_Mm) : ro_Mm := (if (M.2.1 16 9) ≤ (0 : Int32) then M else (if (M.2.1 16 9) ≤ (121 : Int32) then (ro_sI M 16 9 ((M.2.1 16 9) - (1 : Int32))) else M))
def xp_61 (M : ro_Mm) : Prop := (((M.2.1 16 9) ≤ (0 : Int32) → True) ∧ (¬ ((M.2.1 16 9) ≤ (0 : Int32)) → (((M.2.1 16 9) ≤ (121 : Int32) → (vp_in ((M.2.1 16 9) - (1 : Int32)) 121 ∧ True)) ∧ (¬ ((M.2.1 16 9) ≤ (121 : Int32)) → True))))
theorem xs_61 {X : ro_Sx} {M : ro_Mm} (hL : ro_lay M) (hp : xp_61 M) : ro_cwp X 1 61 [.ref 16] M (fun v M2 => v = some (.int (xf_61 M)) ∧ M2 = xm_61 M) := by
  refine rs_begin (lv0 := [(0, .ref 16)]) (by decide) rfl (by rw [rm_61.1]; exact Nat.le_of_ble_eq_true rfl) rfl ?_
  unfold xp_61 at hp
  refine rs_aload_n ri_61_0 rfl rfl ?_
  refine rs_gf (v := .int (M.2.1 16 9)) ri_61_1 rfl (by decide) (ro_kf (kd_16 hL)) rfl rfl ?_
  refine rs_if_le (t := 19) ri_61_4 rfl rfl (fun h1 => ?_) (fun h1 => ?_)
  · have hp := hp.1 h1
    refine rs_iconst (v := (0 : Int32)) ri_61_19 rfl (by decide) ?_
    refine rs_iret ri_61_20 rm_61.2.1 (by decide) ?_
    exact ⟨by unfold xf_61; first | (simp only [if_pos h1]; done) | rfl, by unfold xm_61; first | (simp only [if_pos h1]; done) | rfl⟩
  · have hp := hp.2 h1
    refine rs_aload_n ri_61_7 rfl rfl ?_
    refine rs_gf (v := .int (M.2.1 16 9)) ri_61_8 rfl (by decide) (ro_kf (kd_16 hL)) rfl rfl ?_
    refine rs_aload_n ri_61_11 rfl rfl ?_
    refine rs_gf (v := .ref 20) ri_61_12 rfl (by decide) (ro_kf (kd_16 hL)) rfl (rf_16_3 hL) ?_
    refine rs_len (v := (121 : Int32)) ri_61_15 rfl (by decide) (kd_20 hL) (by decide) rfl ?_
    refine rs_icmp_le (t := 21) ri_61_16 rfl rfl (fun h2 => ?_) (fun h2 => ?_)
    · have hp := hp.1 h2
      refine rs_aload_n ri_61_21 rfl rfl ?_
      refine rs_dup ri_61_22 rfl rfl ?_
      refine rs_gf (v := .int (M.2.1 16 9)) ri_61_23 rfl (by decide) (ro_kf (kd_16 hL)) rfl rfl ?_
      refine rs_iconst (v := (1 : Int32)) ri_61_26 rfl (by decide) ?_
      refine rs_isub (r := ((M.2.1 16 9) - (1 : Int32))) ri_61_27 rfl rfl ?_
      refine rs_pf (M2 := (ro_sI M 16 9 ((M.2.1 16 9) - (1 : Int32)))) ri_61_28 rfl (by decide) (ro_kf (kd_16 hL)) (fun h => absurd h (by decide)) (fun f h => h) ?_
      refine rs_aload_n ri_61_31 rfl rfl ?_
      refine rs_gf (v := .ref 20) ri_61_32 rfl (by decide) (ro_kf (kd_16 hL)) rfl (rf_16_3 hL) ?_
      refine rs_aload_n ri_61_35 rfl rfl ?_
      refine rs_gf (v := .int ((M.2.1 16 9) - (1 : Int32))) ri_61_36 rfl (by decide) (ro_kf (kd_16 hL)) rfl rfl ?_
      obtain ⟨q2, hp⟩ := hp
      refine rs_iald (v := (M.2.1 20 (((M.2.1 16 9) - (1 : Int32)).toNatClampNeg))) ri_61_39 rfl (by decide) (kd_20 hL) q2 rfl ?_
      refine rs_iret ri_61_40 rm_61.2.1 (by decide) ?_
      exact ⟨by unfold xf_61; first | (simp only [if_neg h1, if_pos h2]; done) | rfl, by unfold xm_61; first | (simp only [if_neg h1, if_pos h2]; done) | rfl⟩
    · have hp := hp.2 h2
      refine rs_iconst (v := (0 : Int32)) ri_61_19 rfl (by decide) ?_
      refine rs_iret ri_61_20 rm_61.2.1 (by decide) ?_
      exact ⟨by unfold xf_61; first | (simp only [if_neg h1, if_neg h2]; done) | rfl, by unfold xm_61; first | (simp only [if_neg h1, if_neg h2]; done) | rfl⟩
theorem xl_61 {M : ro_Mm} (hL : ro_lay M) (hp : xp_61 M) : ro_lay (xm_61 M) := by
  unfold xp_61 at hp
  unfold xm_61
  by_cases hz : (M.2.1 16 9) ≤ (0 : Int32)
  · have hp := hp.1 hz
    rw [if_pos hz]
    exact hL
  · have hp := hp.2 hz
    rw [if_neg hz]
    by_cases hz : (M.2.1 16 9) ≤ (121 : Int32)
    · have hp := hp.1 hz
      rw [if_pos hz]
      obtain ⟨q2, hp⟩ := hp
      exact hL
    · have hp := hp.2 hz
      rw [if_neg hz]
      exact hL
theorem xwI_61 {M : ro_Mm} {c j : Nat} (n0 : c ≠ 16) : (xm_61 M).2.1 c j = M.2.1 c j := by
  unfold xm_61
  by_cases hz : (M.2.1 16 9) ≤ (0 : Int32)
  · rw [if_pos hz]
    first | done | exact rfl
  · rw [if_neg hz]
    by_cases hz : (M.2.1 16 9) ≤ (121 : Int32)
    · rw [if_pos hz]
      first | done | exact (ro_sI_ne n0)
    · rw [if_neg hz]
      first | done | exact rfl
theorem xwJ_61 {M : ro_Mm} {c j : Nat} : (xm_61 M).2.2.1 c j = M.2.2.1 c j := by
  unfold xm_61
  by_cases hz : (M.2.1 16 9) ≤ (0 : Int32)
  · rw [if_pos hz]
    first | done | exact rfl
  · rw [if_neg hz]
    by_cases hz : (M.2.1 16 9) ≤ (121 : Int32)
    · rw [if_pos hz]
      first | done | exact rfl
    · rw [if_neg hz]
      first | done | exact rfl
/-- RefusedOnce$Law.push(I)V -/
def xm_62 (M : ro_Mm) (v1 : Int32) : ro_Mm := (if (M.2.1 16 9) < (0 : Int32) then M else (if (121 : Int32) ≤ (M.2.1 16 9) then M else (ro_sI (ro_sI M 20 ((M.2.1 16 9).toNatClampNeg) v1) 16 9 ((M.2.1 16 9) + (1 : Int32)))))
theorem xs_62 {X : ro_Sx} {M : ro_Mm} {v1 : Int32} (hL : ro_lay M) : ro_cwp X 1 62 [.ref 16, .int v1] M (fun v M2 => v = none ∧ M2 = xm_62 M v1) := by
  refine rs_begin (lv0 := [(0, .ref 16), (1, .int v1)]) (by decide) rfl (by rw [rm_62.1]; exact Nat.le_of_ble_eq_true rfl) rfl ?_
  refine rs_aload_n ri_62_0 rfl rfl ?_
  refine rs_gf (v := .int (M.2.1 16 9)) ri_62_1 rfl (by decide) (ro_kf (kd_16 hL)) rfl rfl ?_
  refine rs_if_lt (t := 39) ri_62_4 rfl rfl (fun h1 => ?_) (fun h1 => ?_)
  · skip
    refine rs_ret ri_62_39 rm_62.2.1 (by decide) ?_
    exact ⟨by rfl, by unfold xm_62; first | (simp only [if_pos h1]; done) | rfl⟩
  · skip
    refine rs_aload_n ri_62_7 rfl rfl ?_
    refine rs_gf (v := .int (M.2.1 16 9)) ri_62_8 rfl (by decide) (ro_kf (kd_16 hL)) rfl rfl ?_
    refine rs_aload_n ri_62_11 rfl rfl ?_
    refine rs_gf (v := .ref 20) ri_62_12 rfl (by decide) (ro_kf (kd_16 hL)) rfl (rf_16_3 hL) ?_
    refine rs_len (v := (121 : Int32)) ri_62_15 rfl (by decide) (kd_20 hL) (by decide) rfl ?_
    refine rs_icmp_ge (t := 39) ri_62_16 rfl rfl (fun h2 => ?_) (fun h2 => ?_)
    · skip
      refine rs_ret ri_62_39 rm_62.2.1 (by decide) ?_
      exact ⟨by rfl, by unfold xm_62; first | (simp only [if_neg h1, if_pos h2]; done) | rfl⟩
    · skip
      refine rs_aload_n ri_62_19 rfl rfl ?_
      refine rs_gf (v := .ref 20) ri_62_20 rfl (by decide) (ro_kf (kd_16 hL)) rfl (rf_16_3 hL) ?_
      refine rs_aload_n ri_62_23 rfl rfl ?_
      refine rs_gf (v := .int (M.2.1 16 9)) ri_62_24 rfl (by decide) (ro_kf (kd_16 hL)) rfl rfl ?_
      refine rs_iload_n ri_62_27 rfl rfl ?_
      refine rs_iast (j := (M.2.1 16 9).toNatClampNeg) ri_62_28 rfl (by decide) (kd_20 hL) (vp_in_iff.mpr ⟨(ro_lo1 h1), (ro_hi2 h2 (by decide))⟩) rfl ?_
      refine rs_aload_n ri_62_29 rfl rfl ?_
      refine rs_dup ri_62_30 rfl rfl ?_
      refine rs_gf (v := .int (M.2.1 16 9)) ri_62_31 rfl (by decide) (ro_kf (kd_16 hL)) rfl rfl ?_
      refine rs_iconst (v := (1 : Int32)) ri_62_34 rfl (by decide) ?_
      refine rs_iadd (r := ((M.2.1 16 9) + (1 : Int32))) ri_62_35 rfl rfl ?_
      refine rs_pf (M2 := (ro_sI (ro_sI M 20 ((M.2.1 16 9).toNatClampNeg) v1) 16 9 ((M.2.1 16 9) + (1 : Int32)))) ri_62_36 rfl (by decide) (ro_kf (kd_16 hL)) (fun h => absurd h (by decide)) (fun f h => h) ?_
      refine rs_ret ri_62_39 rm_62.2.1 (by decide) ?_
      exact ⟨by rfl, by unfold xm_62; first | (simp only [if_neg h1, if_neg h2]; done) | rfl⟩
theorem xl_62 {M : ro_Mm} {v1 : Int32} (hL : ro_lay M) : ro_lay (xm_62 M v1) := by
  unfold xm_62
  by_cases hz : (M.2.1 16 9) < (0 : Int32)
  · skip
    rw [if_pos hz]
    exact hL
  · skip
    rw [if_neg hz]
    by_cases hz : (121 : Int32) ≤ (M.2.1 16 9)
    · skip
      rw [if_pos hz]
      exact hL
    · skip
      rw [if_neg hz]
      exact hL
theorem xwI_62 {M : ro_Mm} {v1 : Int32} {c j : Nat} (n0 : c ≠ 20) (n1 : c ≠ 16) : (xm_62 M v1).2.1 c j = M.2.1 c j := by
  unfold xm_62
  by_cases hz : (M.2.1 16 9) < (0 : Int32)
  · rw [if_pos hz]
    first | done | exact rfl
  · rw [if_neg hz]
    by_cases hz : (121 : Int32) ≤ (M.2.1 16 9)
    · rw [if_pos hz]
      first | done | exact rfl
    · rw [if_neg hz]
      first | done | exact (((ro_sI_ne n1)).trans (ro_sI_ne n0))
theorem xwJ_62 {M : ro_Mm} {v1 : Int32} {c j : Nat} : (xm_62 M v1).2.2.1 c j = M.2.2.1 c j := by
  unfold xm_62
  by_cases hz : (M.2.1 16 9) < (0 : Int32)
  · rw [if_pos hz]
    first | done | exact rfl
  · rw [if_neg hz]
    by_cases hz : (121 : Int32) ≤ (M.2.1 16 9)
    · rw [if_pos hz]
      first | done | exact rfl
    · rw [if_neg hz]
      first | done | exact rfl
/-- RefusedOnce$Law.both(III)I -/
def xf_63 (M : ro_Mm) (v0 : Int32) (v1 : Int32) (v2 : Int32) : Int32 := (if v0 = (38 : Int32) then (if v1 = (0 : Int32) then (0 : Int32) else (if v2 = (0 : Int32) then (0 : Int32) else (1 : Int32))) else (if v0 = (42 : Int32) then (v1 * v2) else (if v0 = (43 : Int32) then (v1 + v2) else (if v0 = (45 : Int32) then (v1 - v2) else (if v0 = (47 : Int32) then (if v2 = (0 : Int32) then (0 : Int32) else (v1 / v2)) else (if v0 = (60 : Int32) then (if v2 ≤ v1 then (0 : Int32) else (1 : Int32)) else (if v0 = (61 : Int32) then (if v1 = v2 then (1 : Int32) else (0 : Int32)) else (if v0 = (62 : Int32) then (if v1 ≤ v2 then (0 : Int32) else (1 : Int32)) else (if v0 = (124 : Int32) then (if v1 = (0 : Int32) then (if v2 = (0 : Int32) then (0 : Int32) else (1 : Int32)) else (1 : Int32)) else (if v2 = (0 : Int32) then (0 : Int32) else (ro_irem v1 v2)))))))))))
theorem xs_63 {X : ro_Sx} {M : ro_Mm} {v0 : Int32} {v1 : Int32} {v2 : Int32} (hL : ro_lay M) : ro_cwp X 1 63 [.int v0, .int v1, .int v2] M (fun v M2 => v = some (.int (xf_63 M v0 v1 v2)) ∧ M2 = M) := by
  refine rs_begin (lv0 := [(0, .int v0), (1, .int v1), (2, .int v2)]) (by decide) rfl (by rw [rm_63.1]; exact Nat.le_of_ble_eq_true rfl) rfl ?_
  refine rs_iload_n ri_63_0 rfl rfl ?_
  by_cases h1 : v0 = (38 : Int32)
  · skip
    refine rs_look (t := 98) ri_63_1 (by decide) (by rw [h1]; first | done | rfl) rfl ?_
    refine rs_iload_n ri_63_98 rfl rfl ?_
    refine rs_if_eq (t := 110) ri_63_99 rfl rfl (fun h2 => ?_) (fun h2 => ?_)
    · skip
      refine rs_iconst (v := (0 : Int32)) ri_63_110 rfl (by decide) ?_
      refine rs_iret ri_63_111 rm_63.2.1 (by decide) ?_
      exact ⟨by unfold xf_63; first | (simp only [if_pos h1, if_pos h2]; done) | rfl, by rfl⟩
    · skip
      refine rs_iload_n ri_63_102 rfl rfl ?_
      refine rs_if_eq (t := 110) ri_63_103 rfl rfl (fun h3 => ?_) (fun h3 => ?_)
      · skip
        refine rs_iconst (v := (0 : Int32)) ri_63_110 rfl (by decide) ?_
        refine rs_iret ri_63_111 rm_63.2.1 (by decide) ?_
        exact ⟨by unfold xf_63; first | (simp only [if_pos h1, if_neg h2, if_pos h3]; done) | rfl, by rfl⟩
      · skip
        refine rs_iconst (v := (1 : Int32)) ri_63_106 rfl (by decide) ?_
        refine rs_goto (t := 111) ri_63_107 rfl ?_
        refine rs_iret ri_63_111 rm_63.2.1 (by decide) ?_
        exact ⟨by unfold xf_63; first | (simp only [if_pos h1, if_neg h2, if_neg h3]; done) | rfl, by rfl⟩
  · skip
    by_cases h4 : v0 = (42 : Int32)
    · skip
      refine rs_look (t := 153) ri_63_1 (by decide) (by rw [h4]; first | done | rfl) rfl ?_
      refine rs_iload_n ri_63_153 rfl rfl ?_
      refine rs_iload_n ri_63_154 rfl rfl ?_
      refine rs_imul (r := (v1 * v2)) ri_63_155 rfl rfl ?_
      refine rs_iret ri_63_156 rm_63.2.1 (by decide) ?_
      exact ⟨by unfold xf_63; first | (simp only [if_neg h1, if_pos h4]; done) | rfl, by rfl⟩
    · skip
      by_cases h5 : v0 = (43 : Int32)
      · skip
        refine rs_look (t := 145) ri_63_1 (by decide) (by rw [h5]; first | done | rfl) rfl ?_
        refine rs_iload_n ri_63_145 rfl rfl ?_
        refine rs_iload_n ri_63_146 rfl rfl ?_
        refine rs_iadd (r := (v1 + v2)) ri_63_147 rfl rfl ?_
        refine rs_iret ri_63_148 rm_63.2.1 (by decide) ?_
        exact ⟨by unfold xf_63; first | (simp only [if_neg h1, if_neg h4, if_pos h5]; done) | rfl, by rfl⟩
      · skip
        by_cases h6 : v0 = (45 : Int32)
        · skip
          refine rs_look (t := 149) ri_63_1 (by decide) (by rw [h6]; first | done | rfl) rfl ?_
          refine rs_iload_n ri_63_149 rfl rfl ?_
          refine rs_iload_n ri_63_150 rfl rfl ?_
          refine rs_isub (r := (v1 - v2)) ri_63_151 rfl rfl ?_
          refine rs_iret ri_63_152 rm_63.2.1 (by decide) ?_
          exact ⟨by unfold xf_63; first | (simp only [if_neg h1, if_neg h4, if_neg h5, if_pos h6]; done) | rfl, by rfl⟩
        · skip
          by_cases h7 : v0 = (47 : Int32)
          · skip
            refine rs_look (t := 157) ri_63_1 (by decide) (by rw [h7]; first | done | rfl) rfl ?_
            refine rs_iload_n ri_63_157 rfl rfl ?_
            refine rs_if_ne (t := 165) ri_63_158 rfl rfl (fun h8 => ?_) (fun h8 => ?_)
            · skip
              refine rs_iload_n ri_63_165 rfl rfl ?_
              refine rs_iload_n ri_63_166 rfl rfl ?_
              refine rs_idiv (r := (v1 / v2)) ri_63_167 rfl h8 rfl ?_
              refine rs_iret ri_63_168 rm_63.2.1 (by decide) ?_
              exact ⟨by unfold xf_63; first | (simp only [if_neg h1, if_neg h4, if_neg h5, if_neg h6, if_pos h7, if_neg h8]; done) | rfl, by rfl⟩
            · skip
              refine rs_iconst (v := (0 : Int32)) ri_63_161 rfl (by decide) ?_
              refine rs_goto (t := 168) ri_63_162 rfl ?_
              refine rs_iret ri_63_168 rm_63.2.1 (by decide) ?_
              exact ⟨by unfold xf_63; first | (simp only [if_neg h1, if_neg h4, if_neg h5, if_neg h6, if_pos h7, if_pos h8]; done) | rfl, by rfl⟩
          · skip
            by_cases h9 : v0 = (60 : Int32)
            · skip
              refine rs_look (t := 112) ri_63_1 (by decide) (by rw [h9]; first | done | rfl) rfl ?_
              refine rs_iload_n ri_63_112 rfl rfl ?_
              refine rs_iload_n ri_63_113 rfl rfl ?_
              refine rs_icmp_ge (t := 121) ri_63_114 rfl rfl (fun h10 => ?_) (fun h10 => ?_)
              · skip
                refine rs_iconst (v := (0 : Int32)) ri_63_121 rfl (by decide) ?_
                refine rs_iret ri_63_122 rm_63.2.1 (by decide) ?_
                exact ⟨by unfold xf_63; first | (simp only [if_neg h1, if_neg h4, if_neg h5, if_neg h6, if_neg h7, if_pos h9, if_pos h10]; done) | rfl, by rfl⟩
              · skip
                refine rs_iconst (v := (1 : Int32)) ri_63_117 rfl (by decide) ?_
                refine rs_goto (t := 122) ri_63_118 rfl ?_
                refine rs_iret ri_63_122 rm_63.2.1 (by decide) ?_
                exact ⟨by unfold xf_63; first | (simp only [if_neg h1, if_neg h4, if_neg h5, if_neg h6, if_neg h7, if_pos h9, if_neg h10]; done) | rfl, by rfl⟩
            · skip
              by_cases h11 : v0 = (61 : Int32)
              · skip
                refine rs_look (t := 123) ri_63_1 (by decide) (by rw [h11]; first | done | rfl) rfl ?_
                refine rs_iload_n ri_63_123 rfl rfl ?_
                refine rs_iload_n ri_63_124 rfl rfl ?_
                refine rs_icmp_ne (t := 132) ri_63_125 rfl rfl (fun h12 => ?_) (fun h12 => ?_)
                · skip
                  refine rs_iconst (v := (0 : Int32)) ri_63_132 rfl (by decide) ?_
                  refine rs_iret ri_63_133 rm_63.2.1 (by decide) ?_
                  exact ⟨by unfold xf_63; first | (simp only [if_neg h1, if_neg h4, if_neg h5, if_neg h6, if_neg h7, if_neg h9, if_pos h11, if_neg h12]; done) | rfl, by rfl⟩
                · skip
                  refine rs_iconst (v := (1 : Int32)) ri_63_128 rfl (by decide) ?_
                  refine rs_goto (t := 133) ri_63_129 rfl ?_
                  refine rs_iret ri_63_133 rm_63.2.1 (by decide) ?_
                  exact ⟨by unfold xf_63; first | (simp only [if_neg h1, if_neg h4, if_neg h5, if_neg h6, if_neg h7, if_neg h9, if_pos h11, if_pos h12]; done) | rfl, by rfl⟩
              · skip
                by_cases h13 : v0 = (62 : Int32)
                · skip
                  refine rs_look (t := 134) ri_63_1 (by decide) (by rw [h13]; first | done | rfl) rfl ?_
                  refine rs_iload_n ri_63_134 rfl rfl ?_
                  refine rs_iload_n ri_63_135 rfl rfl ?_
                  refine rs_icmp_le (t := 143) ri_63_136 rfl rfl (fun h14 => ?_) (fun h14 => ?_)
                  · skip
                    refine rs_iconst (v := (0 : Int32)) ri_63_143 rfl (by decide) ?_
                    refine rs_iret ri_63_144 rm_63.2.1 (by decide) ?_
                    exact ⟨by unfold xf_63; first | (simp only [if_neg h1, if_neg h4, if_neg h5, if_neg h6, if_neg h7, if_neg h9, if_neg h11, if_pos h13, if_pos h14]; done) | rfl, by rfl⟩
                  · skip
                    refine rs_iconst (v := (1 : Int32)) ri_63_139 rfl (by decide) ?_
                    refine rs_goto (t := 144) ri_63_140 rfl ?_
                    refine rs_iret ri_63_144 rm_63.2.1 (by decide) ?_
                    exact ⟨by unfold xf_63; first | (simp only [if_neg h1, if_neg h4, if_neg h5, if_neg h6, if_neg h7, if_neg h9, if_neg h11, if_pos h13, if_neg h14]; done) | rfl, by rfl⟩
                · skip
                  by_cases h15 : v0 = (124 : Int32)
                  · skip
                    refine rs_look (t := 84) ri_63_1 (by decide) (by rw [h15]; first | done | rfl) rfl ?_
                    refine rs_iload_n ri_63_84 rfl rfl ?_
                    refine rs_if_ne (t := 92) ri_63_85 rfl rfl (fun h16 => ?_) (fun h16 => ?_)
                    · skip
                      refine rs_iconst (v := (1 : Int32)) ri_63_92 rfl (by decide) ?_
                      refine rs_goto (t := 97) ri_63_93 rfl ?_
                      refine rs_iret ri_63_97 rm_63.2.1 (by decide) ?_
                      exact ⟨by unfold xf_63; first | (simp only [if_neg h1, if_neg h4, if_neg h5, if_neg h6, if_neg h7, if_neg h9, if_neg h11, if_neg h13, if_pos h15, if_neg h16]; done) | rfl, by rfl⟩
                    · skip
                      refine rs_iload_n ri_63_88 rfl rfl ?_
                      refine rs_if_eq (t := 96) ri_63_89 rfl rfl (fun h17 => ?_) (fun h17 => ?_)
                      · skip
                        refine rs_iconst (v := (0 : Int32)) ri_63_96 rfl (by decide) ?_
                        refine rs_iret ri_63_97 rm_63.2.1 (by decide) ?_
                        exact ⟨by unfold xf_63; first | (simp only [if_neg h1, if_neg h4, if_neg h5, if_neg h6, if_neg h7, if_neg h9, if_neg h11, if_neg h13, if_pos h15, if_pos h16, if_pos h17]; done) | rfl, by rfl⟩
                      · skip
                        refine rs_iconst (v := (1 : Int32)) ri_63_92 rfl (by decide) ?_
                        refine rs_goto (t := 97) ri_63_93 rfl ?_
                        refine rs_iret ri_63_97 rm_63.2.1 (by decide) ?_
                        exact ⟨by unfold xf_63; first | (simp only [if_neg h1, if_neg h4, if_neg h5, if_neg h6, if_neg h7, if_neg h9, if_neg h11, if_neg h13, if_pos h15, if_pos h16, if_neg h17]; done) | rfl, by rfl⟩
                  · skip
                    refine rs_look (t := 169) ri_63_1 (by decide) ((lv_osw h1 rfl).trans ((lv_osw h4 rfl).trans ((lv_osw h5 rfl).trans ((lv_osw h6 rfl).trans ((lv_osw h7 rfl).trans ((lv_osw h9 rfl).trans ((lv_osw h11 rfl).trans ((lv_osw h13 rfl).trans ((lv_osw h15 rfl).trans rfl))))))))) rfl ?_
                    refine rs_iload_n ri_63_169 rfl rfl ?_
                    refine rs_if_ne (t := 177) ri_63_170 rfl rfl (fun h18 => ?_) (fun h18 => ?_)
                    · skip
                      refine rs_iload_n ri_63_177 rfl rfl ?_
                      refine rs_iload_n ri_63_178 rfl rfl ?_
                      refine rs_irem (r := (ro_irem v1 v2)) ri_63_179 rfl h18 rfl ?_
                      refine rs_iret ri_63_180 rm_63.2.1 (by decide) ?_
                      exact ⟨by unfold xf_63; first | (simp only [if_neg h1, if_neg h4, if_neg h5, if_neg h6, if_neg h7, if_neg h9, if_neg h11, if_neg h13, if_neg h15, if_neg h18]; done) | rfl, by rfl⟩
                    · skip
                      refine rs_iconst (v := (0 : Int32)) ri_63_173 rfl (by decide) ?_
                      refine rs_goto (t := 180) ri_63_174 rfl ?_
                      refine rs_iret ri_63_180 rm_63.2.1 (by decide) ?_
                      exact ⟨by unfold xf_63; first | (simp only [if_neg h1, if_neg h4, if_neg h5, if_neg h6, if_neg h7, if_neg h9, if_neg h11, if_neg h13, if_neg h15, if_pos h18]; done) | rfl, by rfl⟩
/-- RefusedOnce$Shelf.refusal()I -/
def xf_65 (M : ro_Mm) (c0 : Nat) : Int32 := (if (xf_21 M c0) then (-11 : Int32) else (-12 : Int32))
theorem xs_65 {X : ro_Sx} {M : ro_Mm} {c0 : Nat} (hL : ro_lay M) (hc0 : ro_is c0) : ro_cwp X 2 65 [.ref c0] M (fun v M2 => v = some (.int (xf_65 M c0)) ∧ M2 = M) := by
  refine rs_begin (lv0 := [(0, .ref c0)]) (by decide) rfl (by rw [rm_65.1]; exact Nat.le_of_ble_eq_true rfl) rfl ?_
  refine rs_aload_n ri_65_0 rfl rfl ?_
  refine rs_virt (As := []) (r := []) ri_65_1 rfl (by decide) rm_21.2.2.2 rm_21.2.2.1 rfl rfl rfl (ro_is4 hc0) (ro_kf (is_kd hL hc0)) (Nat.le_of_ble_eq_true rfl) (by decide) (by decide) (xs_21 (X := X) hL hc0) ?_
  rintro _ _ ⟨e1, e2⟩
  rw [e1, e2]
  show ro_w X _ 65 _ 4 [(0, .ref c0)] [.int (ro_b (xf_21 M c0))] M (0, 0)
  refine rs_ifeq_c (t := 12) ri_65_4 rfl rfl (fun h1 => ?_) (fun h1 => ?_)
  · skip
    refine rs_bipush (v := (-12 : Int32)) ri_65_12 rfl (by decide) ?_
    refine rs_iret ri_65_14 rm_65.2.1 (by decide) ?_
    exact ⟨by unfold xf_65; first | (simp only [if_neg h1]; done) | rfl, by rfl⟩
  · skip
    refine rs_bipush (v := (-11 : Int32)) ri_65_7 rfl (by decide) ?_
    refine rs_goto (t := 14) ri_65_9 rfl ?_
    refine rs_iret ri_65_14 rm_65.2.1 (by decide) ?_
    exact ⟨by unfold xf_65; first | (simp only [if_pos h1]; done) | rfl, by rfl⟩
/-- RefusedOnce$Evening.byAt(I)I -/
def xf_69 (M : ro_Mm) (v1 : Int32) : Int32 := (if v1 < (0 : Int32) then (0 : Int32) else (if (20 : Int32) ≤ v1 then (0 : Int32) else (M.2.1 39 (v1.toNatClampNeg))))
theorem xs_69 {X : ro_Sx} {M : ro_Mm} {v1 : Int32} (hL : ro_lay M) : ro_cwp X 1 69 [.ref 35, .int v1] M (fun v M2 => v = some (.int (xf_69 M v1)) ∧ M2 = M) := by
  refine rs_begin (lv0 := [(0, .ref 35), (1, .int v1)]) (by decide) rfl (by rw [rm_69.1]; exact Nat.le_of_ble_eq_true rfl) rfl ?_
  refine rs_iload_n ri_69_0 rfl rfl ?_
  refine rs_if_lt (t := 22) ri_69_1 rfl rfl (fun h1 => ?_) (fun h1 => ?_)
  · skip
    refine rs_iconst (v := (0 : Int32)) ri_69_22 rfl (by decide) ?_
    refine rs_iret ri_69_23 rm_69.2.1 (by decide) ?_
    exact ⟨by unfold xf_69; first | (simp only [if_pos h1]; done) | rfl, by rfl⟩
  · skip
    refine rs_iload_n ri_69_4 rfl rfl ?_
    refine rs_aload_n ri_69_5 rfl rfl ?_
    refine rs_gf (v := .ref 39) ri_69_6 rfl (by decide) (ro_kf (kd_35 hL)) rfl (rf_35_3 hL) ?_
    refine rs_len (v := (20 : Int32)) ri_69_9 rfl (by decide) (kd_39 hL) (by decide) rfl ?_
    refine rs_icmp_ge (t := 22) ri_69_10 rfl rfl (fun h2 => ?_) (fun h2 => ?_)
    · skip
      refine rs_iconst (v := (0 : Int32)) ri_69_22 rfl (by decide) ?_
      refine rs_iret ri_69_23 rm_69.2.1 (by decide) ?_
      exact ⟨by unfold xf_69; first | (simp only [if_neg h1, if_pos h2]; done) | rfl, by rfl⟩
    · skip
      refine rs_aload_n ri_69_13 rfl rfl ?_
      refine rs_gf (v := .ref 39) ri_69_14 rfl (by decide) (ro_kf (kd_35 hL)) rfl (rf_35_3 hL) ?_
      refine rs_iload_n ri_69_17 rfl rfl ?_
      refine rs_iald (v := (M.2.1 39 (v1.toNatClampNeg))) ri_69_18 rfl (by decide) (kd_39 hL) (vp_in_iff.mpr ⟨(ro_lo1 h1), (ro_hi2 h2 (by decide))⟩) rfl ?_
      refine rs_goto (t := 23) ri_69_19 rfl ?_
      refine rs_iret ri_69_23 rm_69.2.1 (by decide) ?_
      exact ⟨by unfold xf_69; first | (simp only [if_neg h1, if_neg h2]; done) | rfl, by rfl⟩
/-- RefusedOnce$Evening.toAt(I)I -/
def xf_70 (M : ro_Mm) (v1 : Int32) : Int32 := (if v1 < (0 : Int32) then (0 : Int32) else (if (20 : Int32) ≤ v1 then (0 : Int32) else (M.2.1 40 (v1.toNatClampNeg))))
theorem xs_70 {X : ro_Sx} {M : ro_Mm} {v1 : Int32} (hL : ro_lay M) : ro_cwp X 1 70 [.ref 35, .int v1] M (fun v M2 => v = some (.int (xf_70 M v1)) ∧ M2 = M) := by
  refine rs_begin (lv0 := [(0, .ref 35), (1, .int v1)]) (by decide) rfl (by rw [rm_70.1]; exact Nat.le_of_ble_eq_true rfl) rfl ?_
  refine rs_iload_n ri_70_0 rfl rfl ?_
  refine rs_if_lt (t := 22) ri_70_1 rfl rfl (fun h1 => ?_) (fun h1 => ?_)
  · skip
    refine rs_iconst (v := (0 : Int32)) ri_70_22 rfl (by decide) ?_
    refine rs_iret ri_70_23 rm_70.2.1 (by decide) ?_
    exact ⟨by unfold xf_70; first | (simp only [if_pos h1]; done) | rfl, by rfl⟩
  · skip
    refine rs_iload_n ri_70_4 rfl rfl ?_
    refine rs_aload_n ri_70_5 rfl rfl ?_
    refine rs_gf (v := .ref 40) ri_70_6 rfl (by decide) (ro_kf (kd_35 hL)) rfl (rf_35_4 hL) ?_
    refine rs_len (v := (20 : Int32)) ri_70_9 rfl (by decide) (kd_40 hL) (by decide) rfl ?_
    refine rs_icmp_ge (t := 22) ri_70_10 rfl rfl (fun h2 => ?_) (fun h2 => ?_)
    · skip
      refine rs_iconst (v := (0 : Int32)) ri_70_22 rfl (by decide) ?_
      refine rs_iret ri_70_23 rm_70.2.1 (by decide) ?_
      exact ⟨by unfold xf_70; first | (simp only [if_neg h1, if_pos h2]; done) | rfl, by rfl⟩
    · skip
      refine rs_aload_n ri_70_13 rfl rfl ?_
      refine rs_gf (v := .ref 40) ri_70_14 rfl (by decide) (ro_kf (kd_35 hL)) rfl (rf_35_4 hL) ?_
      refine rs_iload_n ri_70_17 rfl rfl ?_
      refine rs_iald (v := (M.2.1 40 (v1.toNatClampNeg))) ri_70_18 rfl (by decide) (kd_40 hL) (vp_in_iff.mpr ⟨(ro_lo1 h1), (ro_hi2 h2 (by decide))⟩) rfl ?_
      refine rs_goto (t := 23) ri_70_19 rfl ?_
      refine rs_iret ri_70_23 rm_70.2.1 (by decide) ?_
      exact ⟨by unfold xf_70; first | (simp only [if_neg h1, if_neg h2]; done) | rfl, by rfl⟩
/-- RefusedOnce$Evening.isWholeAt(I)Z -/
def xf_71 (M : ro_Mm) (v1 : Int32) : Bool := (if v1 < (0 : Int32) then false else (if (20 : Int32) ≤ v1 then false else (if (M.2.1 41 (v1.toNatClampNeg)) = (0 : Int32) then true else false)))
theorem xs_71 {X : ro_Sx} {M : ro_Mm} {v1 : Int32} (hL : ro_lay M) : ro_cwp X 1 71 [.ref 35, .int v1] M (fun v M2 => v = some (.int (ro_b (xf_71 M v1))) ∧ M2 = M) := by
  refine rs_begin (lv0 := [(0, .ref 35), (1, .int v1)]) (by decide) rfl (by rw [rm_71.1]; exact Nat.le_of_ble_eq_true rfl) rfl ?_
  refine rs_iload_n ri_71_0 rfl rfl ?_
  refine rs_if_lt (t := 26) ri_71_1 rfl rfl (fun h1 => ?_) (fun h1 => ?_)
  · skip
    refine rs_iconst (v := (0 : Int32)) ri_71_26 rfl (by decide) ?_
    refine rs_zret (p := false) ri_71_27 rm_71.2.1 (by decide) rfl ?_
    exact ⟨by unfold xf_71; first | (simp only [if_pos h1]; done) | rfl, by rfl⟩
  · skip
    refine rs_iload_n ri_71_4 rfl rfl ?_
    refine rs_aload_n ri_71_5 rfl rfl ?_
    refine rs_gf (v := .ref 41) ri_71_6 rfl (by decide) (ro_kf (kd_35 hL)) rfl (rf_35_5 hL) ?_
    refine rs_len (v := (20 : Int32)) ri_71_9 rfl (by decide) (kd_41 hL) (by decide) rfl ?_
    refine rs_icmp_ge (t := 26) ri_71_10 rfl rfl (fun h2 => ?_) (fun h2 => ?_)
    · skip
      refine rs_iconst (v := (0 : Int32)) ri_71_26 rfl (by decide) ?_
      refine rs_zret (p := false) ri_71_27 rm_71.2.1 (by decide) rfl ?_
      exact ⟨by unfold xf_71; first | (simp only [if_neg h1, if_pos h2]; done) | rfl, by rfl⟩
    · skip
      refine rs_aload_n ri_71_13 rfl rfl ?_
      refine rs_gf (v := .ref 41) ri_71_14 rfl (by decide) (ro_kf (kd_35 hL)) rfl (rf_35_5 hL) ?_
      refine rs_iload_n ri_71_17 rfl rfl ?_
      refine rs_iald (v := (M.2.1 41 (v1.toNatClampNeg))) ri_71_18 rfl (by decide) (kd_41 hL) (vp_in_iff.mpr ⟨(ro_lo1 h1), (ro_hi2 h2 (by decide))⟩) rfl ?_
      refine rs_if_ne (t := 26) ri_71_19 rfl rfl (fun h3 => ?_) (fun h3 => ?_)
      · skip
        refine rs_iconst (v := (0 : Int32)) ri_71_26 rfl (by decide) ?_
        refine rs_zret (p := false) ri_71_27 rm_71.2.1 (by decide) rfl ?_
        exact ⟨by unfold xf_71; first | (simp only [if_neg h1, if_neg h2, if_neg h3]; done) | rfl, by rfl⟩
      · skip
        refine rs_iconst (v := (1 : Int32)) ri_71_22 rfl (by decide) ?_
        refine rs_goto (t := 27) ri_71_23 rfl ?_
        refine rs_zret (p := true) ri_71_27 rm_71.2.1 (by decide) rfl ?_
        exact ⟨by unfold xf_71; first | (simp only [if_neg h1, if_neg h2, if_pos h3]; done) | rfl, by rfl⟩
/-- RefusedOnce$Purses.mayOfferCut(II)Z -/
def xf_73 (M : ro_Mm) (c0 : Nat) (v1 : Int32) (v2 : Int32) : Bool := (if (xf_32 M c0 v1) ≤ (0 : Int32) then false else (if (20 : Int32) ≤ (xf_32 M c0 v2) then false else true))
theorem xs_73 {X : ro_Sx} {M : ro_Mm} {c0 : Nat} {v1 : Int32} {v2 : Int32} (hL : ro_lay M) (hc0 : ro_ip c0) : ro_cwp X 2 73 [.ref c0, .int v1, .int v2] M (fun v M2 => v = some (.int (ro_b (xf_73 M c0 v1 v2))) ∧ M2 = M) := by
  refine rs_begin (lv0 := [(0, .ref c0), (1, .int v1), (2, .int v2)]) (by decide) rfl (by rw [rm_73.1]; exact Nat.le_of_ble_eq_true rfl) rfl ?_
  refine rs_aload_n ri_73_0 rfl rfl ?_
  refine rs_iload_n ri_73_1 rfl rfl ?_
  refine rs_virt (As := [.int v1]) (r := []) ri_73_2 rfl (by decide) rm_32.2.2.2 rm_32.2.2.1 rfl rfl rfl (ro_ip4 hc0) (ro_kf (ip_kd hL hc0)) (Nat.le_of_ble_eq_true rfl) (by decide) (by decide) (xs_32 (X := X) hL hc0) ?_
  rintro _ _ ⟨e1, e2⟩
  rw [e1, e2]
  show ro_w X _ 73 _ 5 [(0, .ref c0), (1, .int v1), (2, .int v2)] [.int (xf_32 M c0 v1)] M (0, 0)
  refine rs_if_le (t := 22) ri_73_5 rfl rfl (fun h1 => ?_) (fun h1 => ?_)
  · skip
    refine rs_iconst (v := (0 : Int32)) ri_73_22 rfl (by decide) ?_
    refine rs_zret (p := false) ri_73_23 rm_73.2.1 (by decide) rfl ?_
    exact ⟨by unfold xf_73; first | (simp only [if_pos h1]; done) | rfl, by rfl⟩
  · skip
    refine rs_aload_n ri_73_8 rfl rfl ?_
    refine rs_iload_n ri_73_9 rfl rfl ?_
    refine rs_virt (As := [.int v2]) (r := []) ri_73_10 rfl (by decide) rm_32.2.2.2 rm_32.2.2.1 rfl rfl rfl (ro_ip4 hc0) (ro_kf (ip_kd hL hc0)) (Nat.le_of_ble_eq_true rfl) (by decide) (by decide) (xs_32 (X := X) hL hc0) ?_
    rintro _ _ ⟨e1, e2⟩
    rw [e1, e2]
    show ro_w X _ 73 _ 13 [(0, .ref c0), (1, .int v1), (2, .int v2)] [.int (xf_32 M c0 v2)] M (0, 0)
    refine rs_bipush (v := (20 : Int32)) ri_73_13 rfl (by decide) ?_
    refine rs_icmp_ge (t := 22) ri_73_15 rfl rfl (fun h2 => ?_) (fun h2 => ?_)
    · skip
      refine rs_iconst (v := (0 : Int32)) ri_73_22 rfl (by decide) ?_
      refine rs_zret (p := false) ri_73_23 rm_73.2.1 (by decide) rfl ?_
      exact ⟨by unfold xf_73; first | (simp only [if_neg h1, if_pos h2]; done) | rfl, by rfl⟩
    · skip
      refine rs_iconst (v := (1 : Int32)) ri_73_18 rfl (by decide) ?_
      refine rs_goto (t := 23) ri_73_19 rfl ?_
      refine rs_zret (p := true) ri_73_23 rm_73.2.1 (by decide) rfl ?_
      exact ⟨by unfold xf_73; first | (simp only [if_neg h1, if_neg h2]; done) | rfl, by rfl⟩
/-- RefusedOnce$Purses.giveCut(II)V -/
def xm_74 (M : ro_Mm) (c0 : Nat) (v1 : Int32) (v2 : Int32) : ro_Mm := (xm_17 (xm_17 M c0 v1 ((xf_32 M c0 v1) - (1 : Int32))) c0 v2 ((xf_32 (xm_17 M c0 v1 ((xf_32 M c0 v1) - (1 : Int32))) c0 v2) + (1 : Int32)))
theorem xs_74 {X : ro_Sx} {M : ro_Mm} {c0 : Nat} {v1 : Int32} {v2 : Int32} (hL : ro_lay M) (hc0 : ro_ip c0) : ro_cwp X 2 74 [.ref c0, .int v1, .int v2] M (fun v M2 => v = none ∧ M2 = xm_74 M c0 v1 v2) := by
  refine rs_begin (lv0 := [(0, .ref c0), (1, .int v1), (2, .int v2)]) (by decide) rfl (by rw [rm_74.1]; exact Nat.le_of_ble_eq_true rfl) rfl ?_
  refine rs_aload_n ri_74_0 rfl rfl ?_
  refine rs_iload_n ri_74_1 rfl rfl ?_
  refine rs_aload_n ri_74_2 rfl rfl ?_
  refine rs_iload_n ri_74_3 rfl rfl ?_
  refine rs_virt (As := [.int v1]) (r := [.int v1, .ref c0]) ri_74_4 rfl (by decide) rm_32.2.2.2 rm_32.2.2.1 rfl rfl rfl (ro_ip4 hc0) (ro_kf (ip_kd hL hc0)) (Nat.le_of_ble_eq_true rfl) (by decide) (by decide) (xs_32 (X := X) hL hc0) ?_
  rintro _ _ ⟨e1, e2⟩
  rw [e1, e2]
  show ro_w X _ 74 _ 7 [(0, .ref c0), (1, .int v1), (2, .int v2)] [.int (xf_32 M c0 v1), .int v1, .ref c0] M (0, 0)
  refine rs_iconst (v := (1 : Int32)) ri_74_7 rfl (by decide) ?_
  refine rs_isub (r := ((xf_32 M c0 v1) - (1 : Int32))) ri_74_8 rfl rfl ?_
  refine rs_virt (As := [.int v1, .int ((xf_32 M c0 v1) - (1 : Int32))]) (r := []) ri_74_9 rfl (by decide) rm_17.2.2.2 rm_17.2.2.1 rfl rfl rfl (ro_ip4 hc0) (ro_kf (ip_kd hL hc0)) (Nat.le_of_ble_eq_true rfl) (by decide) (by decide) (xs_17 (X := X) hL hc0) ?_
  rintro _ _ ⟨e1, e2⟩
  rw [e1, e2]
  show ro_w X _ 74 _ 12 [(0, .ref c0), (1, .int v1), (2, .int v2)] [] (xm_17 M c0 v1 ((xf_32 M c0 v1) - (1 : Int32))) (0, 0)
  refine rs_aload_n ri_74_12 rfl rfl ?_
  refine rs_iload_n ri_74_13 rfl rfl ?_
  refine rs_aload_n ri_74_14 rfl rfl ?_
  refine rs_iload_n ri_74_15 rfl rfl ?_
  refine rs_virt (As := [.int v2]) (r := [.int v2, .ref c0]) ri_74_16 rfl (by decide) rm_32.2.2.2 rm_32.2.2.1 rfl rfl rfl (ro_ip4 hc0) (ro_kf (ip_kd (xl_17 hL hc0) hc0)) (Nat.le_of_ble_eq_true rfl) (by decide) (by decide) (xs_32 (X := X) (xl_17 hL hc0) hc0) ?_
  rintro _ _ ⟨e1, e2⟩
  rw [e1, e2]
  show ro_w X _ 74 _ 19 [(0, .ref c0), (1, .int v1), (2, .int v2)] [.int (xf_32 (xm_17 M c0 v1 ((xf_32 M c0 v1) - (1 : Int32))) c0 v2), .int v2, .ref c0] (xm_17 M c0 v1 ((xf_32 M c0 v1) - (1 : Int32))) (0, 0)
  refine rs_iconst (v := (1 : Int32)) ri_74_19 rfl (by decide) ?_
  refine rs_iadd (r := ((xf_32 (xm_17 M c0 v1 ((xf_32 M c0 v1) - (1 : Int32))) c0 v2) + (1 : Int32))) ri_74_20 rfl rfl ?_
  refine rs_virt (As := [.int v2, .int ((xf_32 (xm_17 M c0 v1 ((xf_32 M c0 v1) - (1 : Int32))) c0 v2) + (1 : Int32))]) (r := []) ri_74_21 rfl (by decide) rm_17.2.2.2 rm_17.2.2.1 rfl rfl rfl (ro_ip4 hc0) (ro_kf (ip_kd (xl_17 hL hc0) hc0)) (Nat.le_of_ble_eq_true rfl) (by decide) (by decide) (xs_17 (X := X) (xl_17 hL hc0) hc0) ?_
  rintro _ _ ⟨e1, e2⟩
  rw [e1, e2]
  show ro_w X _ 74 _ 24 [(0, .ref c0), (1, .int v1), (2, .int v2)] [] (xm_17 (xm_17 M c0 v1 ((xf_32 M c0 v1) - (1 : Int32))) c0 v2 ((xf_32 (xm_17 M c0 v1 ((xf_32 M c0 v1) - (1 : Int32))) c0 v2) + (1 : Int32))) (0, 0)
  refine rs_ret ri_74_24 rm_74.2.1 (by decide) ?_
  exact ⟨by rfl, by rfl⟩
theorem xl_74 {M : ro_Mm} {c0 : Nat} {v1 : Int32} {v2 : Int32} (hL : ro_lay M) (hc0 : ro_ip c0) : ro_lay (xm_74 M c0 v1 v2) := by
  unfold xm_74
  exact (xl_17 (xl_17 hL hc0) hc0)
theorem xwI_74 {M : ro_Mm} {c0 : Nat} {v1 : Int32} {v2 : Int32} {c j : Nat} (n0 : c ≠ (c0 + 2)) : (xm_74 M c0 v1 v2).2.1 c j = M.2.1 c j := by
  unfold xm_74
  first | done | exact (((xwI_17 n0)).trans (xwI_17 n0))
theorem xwJ_74 {M : ro_Mm} {c0 : Nat} {v1 : Int32} {v2 : Int32} {c j : Nat} : (xm_74 M c0 v1 v2).2.2.1 c j = M.2.2.1 c j := by
  unfold xm_74
  first | done | exact (((xwJ_17)).trans (xwJ_17))
/-- RefusedOnce$Purses.mayOfferWhole(II)Z -/
def xf_75 (M : ro_Mm) (c0 : Nat) (v1 : Int32) (v2 : Int32) : Bool := (if (xf_31 M c0 v1) ≤ (0 : Int32) then false else (if (20 : Int32) ≤ (xf_31 M c0 v2) then false else (if (20 : Int32) ≤ (xf_32 M c0 v1) then false else true)))
theorem xs_75 {X : ro_Sx} {M : ro_Mm} {c0 : Nat} {v1 : Int32} {v2 : Int32} (hL : ro_lay M) (hc0 : ro_ip c0) : ro_cwp X 2 75 [.ref c0, .int v1, .int v2] M (fun v M2 => v = some (.int (ro_b (xf_75 M c0 v1 v2))) ∧ M2 = M) := by
  refine rs_begin (lv0 := [(0, .ref c0), (1, .int v1), (2, .int v2)]) (by decide) rfl (by rw [rm_75.1]; exact Nat.le_of_ble_eq_true rfl) rfl ?_
  refine rs_aload_n ri_75_0 rfl rfl ?_
  refine rs_iload_n ri_75_1 rfl rfl ?_
  refine rs_virt (As := [.int v1]) (r := []) ri_75_2 rfl (by decide) rm_31.2.2.2 rm_31.2.2.1 rfl rfl rfl (ro_ip4 hc0) (ro_kf (ip_kd hL hc0)) (Nat.le_of_ble_eq_true rfl) (by decide) (by decide) (xs_31 (X := X) hL hc0) ?_
  rintro _ _ ⟨e1, e2⟩
  rw [e1, e2]
  show ro_w X _ 75 _ 5 [(0, .ref c0), (1, .int v1), (2, .int v2)] [.int (xf_31 M c0 v1)] M (0, 0)
  refine rs_if_le (t := 32) ri_75_5 rfl rfl (fun h1 => ?_) (fun h1 => ?_)
  · skip
    refine rs_iconst (v := (0 : Int32)) ri_75_32 rfl (by decide) ?_
    refine rs_zret (p := false) ri_75_33 rm_75.2.1 (by decide) rfl ?_
    exact ⟨by unfold xf_75; first | (simp only [if_pos h1]; done) | rfl, by rfl⟩
  · skip
    refine rs_aload_n ri_75_8 rfl rfl ?_
    refine rs_iload_n ri_75_9 rfl rfl ?_
    refine rs_virt (As := [.int v2]) (r := []) ri_75_10 rfl (by decide) rm_31.2.2.2 rm_31.2.2.1 rfl rfl rfl (ro_ip4 hc0) (ro_kf (ip_kd hL hc0)) (Nat.le_of_ble_eq_true rfl) (by decide) (by decide) (xs_31 (X := X) hL hc0) ?_
    rintro _ _ ⟨e1, e2⟩
    rw [e1, e2]
    show ro_w X _ 75 _ 13 [(0, .ref c0), (1, .int v1), (2, .int v2)] [.int (xf_31 M c0 v2)] M (0, 0)
    refine rs_bipush (v := (20 : Int32)) ri_75_13 rfl (by decide) ?_
    refine rs_icmp_ge (t := 32) ri_75_15 rfl rfl (fun h2 => ?_) (fun h2 => ?_)
    · skip
      refine rs_iconst (v := (0 : Int32)) ri_75_32 rfl (by decide) ?_
      refine rs_zret (p := false) ri_75_33 rm_75.2.1 (by decide) rfl ?_
      exact ⟨by unfold xf_75; first | (simp only [if_neg h1, if_pos h2]; done) | rfl, by rfl⟩
    · skip
      refine rs_aload_n ri_75_18 rfl rfl ?_
      refine rs_iload_n ri_75_19 rfl rfl ?_
      refine rs_virt (As := [.int v1]) (r := []) ri_75_20 rfl (by decide) rm_32.2.2.2 rm_32.2.2.1 rfl rfl rfl (ro_ip4 hc0) (ro_kf (ip_kd hL hc0)) (Nat.le_of_ble_eq_true rfl) (by decide) (by decide) (xs_32 (X := X) hL hc0) ?_
      rintro _ _ ⟨e1, e2⟩
      rw [e1, e2]
      show ro_w X _ 75 _ 23 [(0, .ref c0), (1, .int v1), (2, .int v2)] [.int (xf_32 M c0 v1)] M (0, 0)
      refine rs_bipush (v := (20 : Int32)) ri_75_23 rfl (by decide) ?_
      refine rs_icmp_ge (t := 32) ri_75_25 rfl rfl (fun h3 => ?_) (fun h3 => ?_)
      · skip
        refine rs_iconst (v := (0 : Int32)) ri_75_32 rfl (by decide) ?_
        refine rs_zret (p := false) ri_75_33 rm_75.2.1 (by decide) rfl ?_
        exact ⟨by unfold xf_75; first | (simp only [if_neg h1, if_neg h2, if_pos h3]; done) | rfl, by rfl⟩
      · skip
        refine rs_iconst (v := (1 : Int32)) ri_75_28 rfl (by decide) ?_
        refine rs_goto (t := 33) ri_75_29 rfl ?_
        refine rs_zret (p := true) ri_75_33 rm_75.2.1 (by decide) rfl ?_
        exact ⟨by unfold xf_75; first | (simp only [if_neg h1, if_neg h2, if_neg h3]; done) | rfl, by rfl⟩
/-- RefusedOnce$Purses.refuse(I)V -/
def xm_77 (M : ro_Mm) (c0 : Nat) (v1 : Int32) : ro_Mm := (xm_17 (xm_16 M c0 v1 ((xf_31 M c0 v1) - (1 : Int32))) c0 v1 ((xf_32 (xm_16 M c0 v1 ((xf_31 M c0 v1) - (1 : Int32))) c0 v1) + (1 : Int32)))
theorem xs_77 {X : ro_Sx} {M : ro_Mm} {c0 : Nat} {v1 : Int32} (hL : ro_lay M) (hc0 : ro_ip c0) : ro_cwp X 2 77 [.ref c0, .int v1] M (fun v M2 => v = none ∧ M2 = xm_77 M c0 v1) := by
  refine rs_begin (lv0 := [(0, .ref c0), (1, .int v1)]) (by decide) rfl (by rw [rm_77.1]; exact Nat.le_of_ble_eq_true rfl) rfl ?_
  refine rs_aload_n ri_77_0 rfl rfl ?_
  refine rs_iload_n ri_77_1 rfl rfl ?_
  refine rs_aload_n ri_77_2 rfl rfl ?_
  refine rs_iload_n ri_77_3 rfl rfl ?_
  refine rs_virt (As := [.int v1]) (r := [.int v1, .ref c0]) ri_77_4 rfl (by decide) rm_31.2.2.2 rm_31.2.2.1 rfl rfl rfl (ro_ip4 hc0) (ro_kf (ip_kd hL hc0)) (Nat.le_of_ble_eq_true rfl) (by decide) (by decide) (xs_31 (X := X) hL hc0) ?_
  rintro _ _ ⟨e1, e2⟩
  rw [e1, e2]
  show ro_w X _ 77 _ 7 [(0, .ref c0), (1, .int v1)] [.int (xf_31 M c0 v1), .int v1, .ref c0] M (0, 0)
  refine rs_iconst (v := (1 : Int32)) ri_77_7 rfl (by decide) ?_
  refine rs_isub (r := ((xf_31 M c0 v1) - (1 : Int32))) ri_77_8 rfl rfl ?_
  refine rs_virt (As := [.int v1, .int ((xf_31 M c0 v1) - (1 : Int32))]) (r := []) ri_77_9 rfl (by decide) rm_16.2.2.2 rm_16.2.2.1 rfl rfl rfl (ro_ip4 hc0) (ro_kf (ip_kd hL hc0)) (Nat.le_of_ble_eq_true rfl) (by decide) (by decide) (xs_16 (X := X) hL hc0) ?_
  rintro _ _ ⟨e1, e2⟩
  rw [e1, e2]
  show ro_w X _ 77 _ 12 [(0, .ref c0), (1, .int v1)] [] (xm_16 M c0 v1 ((xf_31 M c0 v1) - (1 : Int32))) (0, 0)
  refine rs_aload_n ri_77_12 rfl rfl ?_
  refine rs_iload_n ri_77_13 rfl rfl ?_
  refine rs_aload_n ri_77_14 rfl rfl ?_
  refine rs_iload_n ri_77_15 rfl rfl ?_
  refine rs_virt (As := [.int v1]) (r := [.int v1, .ref c0]) ri_77_16 rfl (by decide) rm_32.2.2.2 rm_32.2.2.1 rfl rfl rfl (ro_ip4 hc0) (ro_kf (ip_kd (xl_16 hL hc0) hc0)) (Nat.le_of_ble_eq_true rfl) (by decide) (by decide) (xs_32 (X := X) (xl_16 hL hc0) hc0) ?_
  rintro _ _ ⟨e1, e2⟩
  rw [e1, e2]
  show ro_w X _ 77 _ 19 [(0, .ref c0), (1, .int v1)] [.int (xf_32 (xm_16 M c0 v1 ((xf_31 M c0 v1) - (1 : Int32))) c0 v1), .int v1, .ref c0] (xm_16 M c0 v1 ((xf_31 M c0 v1) - (1 : Int32))) (0, 0)
  refine rs_iconst (v := (1 : Int32)) ri_77_19 rfl (by decide) ?_
  refine rs_iadd (r := ((xf_32 (xm_16 M c0 v1 ((xf_31 M c0 v1) - (1 : Int32))) c0 v1) + (1 : Int32))) ri_77_20 rfl rfl ?_
  refine rs_virt (As := [.int v1, .int ((xf_32 (xm_16 M c0 v1 ((xf_31 M c0 v1) - (1 : Int32))) c0 v1) + (1 : Int32))]) (r := []) ri_77_21 rfl (by decide) rm_17.2.2.2 rm_17.2.2.1 rfl rfl rfl (ro_ip4 hc0) (ro_kf (ip_kd (xl_16 hL hc0) hc0)) (Nat.le_of_ble_eq_true rfl) (by decide) (by decide) (xs_17 (X := X) (xl_16 hL hc0) hc0) ?_
  rintro _ _ ⟨e1, e2⟩
  rw [e1, e2]
  show ro_w X _ 77 _ 24 [(0, .ref c0), (1, .int v1)] [] (xm_17 (xm_16 M c0 v1 ((xf_31 M c0 v1) - (1 : Int32))) c0 v1 ((xf_32 (xm_16 M c0 v1 ((xf_31 M c0 v1) - (1 : Int32))) c0 v1) + (1 : Int32))) (0, 0)
  refine rs_ret ri_77_24 rm_77.2.1 (by decide) ?_
  exact ⟨by rfl, by rfl⟩
theorem xl_77 {M : ro_Mm} {c0 : Nat} {v1 : Int32} (hL : ro_lay M) (hc0 : ro_ip c0) : ro_lay (xm_77 M c0 v1) := by
  unfold xm_77
  exact (xl_17 (xl_16 hL hc0) hc0)
theorem xwI_77 {M : ro_Mm} {c0 : Nat} {v1 : Int32} {c j : Nat} (n0 : c ≠ (c0 + 1)) (n1 : c ≠ (c0 + 2)) : (xm_77 M c0 v1).2.1 c j = M.2.1 c j := by
  unfold xm_77
  first | done | exact (((xwI_17 n1)).trans (xwI_16 n0))
theorem xwJ_77 {M : ro_Mm} {c0 : Nat} {v1 : Int32} {c j : Nat} : (xm_77 M c0 v1).2.2.1 c j = M.2.2.1 c j := by
  unfold xm_77
  first | done | exact (((xwJ_17)).trans (xwJ_16))
/-- RefusedOnce$Purses.giveWhole(II)V -/
def xm_78 (M : ro_Mm) (c0 : Nat) (v1 : Int32) (v2 : Int32) : ro_Mm := (xm_16 (xm_16 M c0 v1 ((xf_31 M c0 v1) - (1 : Int32))) c0 v2 ((xf_31 (xm_16 M c0 v1 ((xf_31 M c0 v1) - (1 : Int32))) c0 v2) + (1 : Int32)))
theorem xs_78 {X : ro_Sx} {M : ro_Mm} {c0 : Nat} {v1 : Int32} {v2 : Int32} (hL : ro_lay M) (hc0 : ro_ip c0) : ro_cwp X 2 78 [.ref c0, .int v1, .int v2] M (fun v M2 => v = none ∧ M2 = xm_78 M c0 v1 v2) := by
  refine rs_begin (lv0 := [(0, .ref c0), (1, .int v1), (2, .int v2)]) (by decide) rfl (by rw [rm_78.1]; exact Nat.le_of_ble_eq_true rfl) rfl ?_
  refine rs_aload_n ri_78_0 rfl rfl ?_
  refine rs_iload_n ri_78_1 rfl rfl ?_
  refine rs_aload_n ri_78_2 rfl rfl ?_
  refine rs_iload_n ri_78_3 rfl rfl ?_
  refine rs_virt (As := [.int v1]) (r := [.int v1, .ref c0]) ri_78_4 rfl (by decide) rm_31.2.2.2 rm_31.2.2.1 rfl rfl rfl (ro_ip4 hc0) (ro_kf (ip_kd hL hc0)) (Nat.le_of_ble_eq_true rfl) (by decide) (by decide) (xs_31 (X := X) hL hc0) ?_
  rintro _ _ ⟨e1, e2⟩
  rw [e1, e2]
  show ro_w X _ 78 _ 7 [(0, .ref c0), (1, .int v1), (2, .int v2)] [.int (xf_31 M c0 v1), .int v1, .ref c0] M (0, 0)
  refine rs_iconst (v := (1 : Int32)) ri_78_7 rfl (by decide) ?_
  refine rs_isub (r := ((xf_31 M c0 v1) - (1 : Int32))) ri_78_8 rfl rfl ?_
  refine rs_virt (As := [.int v1, .int ((xf_31 M c0 v1) - (1 : Int32))]) (r := []) ri_78_9 rfl (by decide) rm_16.2.2.2 rm_16.2.2.1 rfl rfl rfl (ro_ip4 hc0) (ro_kf (ip_kd hL hc0)) (Nat.le_of_ble_eq_true rfl) (by decide) (by decide) (xs_16 (X := X) hL hc0) ?_
  rintro _ _ ⟨e1, e2⟩
  rw [e1, e2]
  show ro_w X _ 78 _ 12 [(0, .ref c0), (1, .int v1), (2, .int v2)] [] (xm_16 M c0 v1 ((xf_31 M c0 v1) - (1 : Int32))) (0, 0)
  refine rs_aload_n ri_78_12 rfl rfl ?_
  refine rs_iload_n ri_78_13 rfl rfl ?_
  refine rs_aload_n ri_78_14 rfl rfl ?_
  refine rs_iload_n ri_78_15 rfl rfl ?_
  refine rs_virt (As := [.int v2]) (r := [.int v2, .ref c0]) ri_78_16 rfl (by decide) rm_31.2.2.2 rm_31.2.2.1 rfl rfl rfl (ro_ip4 hc0) (ro_kf (ip_kd (xl_16 hL hc0) hc0)) (Nat.le_of_ble_eq_true rfl) (by decide) (by decide) (xs_31 (X := X) (xl_16 hL hc0) hc0) ?_
  rintro _ _ ⟨e1, e2⟩
  rw [e1, e2]
  show ro_w X _ 78 _ 19 [(0, .ref c0), (1, .int v1), (2, .int v2)] [.int (xf_31 (xm_16 M c0 v1 ((xf_31 M c0 v1) - (1 : Int32))) c0 v2), .int v2, .ref c0] (xm_16 M c0 v1 ((xf_31 M c0 v1) - (1 : Int32))) (0, 0)
  refine rs_iconst (v := (1 : Int32)) ri_78_19 rfl (by decide) ?_
  refine rs_iadd (r := ((xf_31 (xm_16 M c0 v1 ((xf_31 M c0 v1) - (1 : Int32))) c0 v2) + (1 : Int32))) ri_78_20 rfl rfl ?_
  refine rs_virt (As := [.int v2, .int ((xf_31 (xm_16 M c0 v1 ((xf_31 M c0 v1) - (1 : Int32))) c0 v2) + (1 : Int32))]) (r := []) ri_78_21 rfl (by decide) rm_16.2.2.2 rm_16.2.2.1 rfl rfl rfl (ro_ip4 hc0) (ro_kf (ip_kd (xl_16 hL hc0) hc0)) (Nat.le_of_ble_eq_true rfl) (by decide) (by decide) (xs_16 (X := X) (xl_16 hL hc0) hc0) ?_
  rintro _ _ ⟨e1, e2⟩
  rw [e1, e2]
  show ro_w X _ 78 _ 24 [(0, .ref c0), (1, .int v1), (2, .int v2)] [] (xm_16 (xm_16 M c0 v1 ((xf_31 M c0 v1) - (1 : Int32))) c0 v2 ((xf_31 (xm_16 M c0 v1 ((xf_31 M c0 v1) - (1 : Int32))) c0 v2) + (1 : Int32))) (0, 0)
  refine rs_ret ri_78_24 rm_78.2.1 (by decide) ?_
  exact ⟨by rfl, by rfl⟩
theorem xl_78 {M : ro_Mm} {c0 : Nat} {v1 : Int32} {v2 : Int32} (hL : ro_lay M) (hc0 : ro_ip c0) : ro_lay (xm_78 M c0 v1 v2) := by
  unfold xm_78
  exact (xl_16 (xl_16 hL hc0) hc0)
theorem xwI_78 {M : ro_Mm} {c0 : Nat} {v1 : Int32} {v2 : Int32} {c j : Nat} (n0 : c ≠ (c0 + 1)) : (xm_78 M c0 v1 v2).2.1 c j = M.2.1 c j := by
  unfold xm_78
  first | done | exact (((xwI_16 n0)).trans (xwI_16 n0))
theorem xwJ_78 {M : ro_Mm} {c0 : Nat} {v1 : Int32} {v2 : Int32} {c j : Nat} : (xm_78 M c0 v1 v2).2.2.1 c j = M.2.2.1 c j := by
  unfold xm_78
  first | done | exact (((xwJ_16)).trans (xwJ_16))
/-- RefusedOnce$Evening.refusals()I -/
def xf_80 (M : ro_Mm) : Int32 := (M.2.1 35 7)
theorem xs_80 {X : ro_Sx} {M : ro_Mm} (hL : ro_lay M) : ro_cwp X 1 80 [.ref 35] M (fun v M2 => v = some (.int (xf_80 M)) ∧ M2 = M) := by
  refine rs_begin (lv0 := [(0, .ref 35)]) (by decide) rfl (by rw [rm_80.1]; exact Nat.le_of_ble_eq_true rfl) rfl ?_
  refine rs_aload_n ri_80_0 rfl rfl ?_
  refine rs_gf (v := .int (M.2.1 35 7)) ri_80_1 rfl (by decide) (ro_kf (kd_35 hL)) rfl rfl ?_
  refine rs_iret ri_80_4 rm_80.2.1 (by decide) ?_
  exact ⟨by rfl, by rfl⟩
/-- RefusedOnce$Evening.firstThatCannotBe()I -/
def xf_81 (M : ro_Mm) : Int32 := (M.2.1 35 8)
theorem xs_81 {X : ro_Sx} {M : ro_Mm} (hL : ro_lay M) : ro_cwp X 1 81 [.ref 35] M (fun v M2 => v = some (.int (xf_81 M)) ∧ M2 = M) := by
  refine rs_begin (lv0 := [(0, .ref 35)]) (by decide) rfl (by rw [rm_81.1]; exact Nat.le_of_ble_eq_true rfl) rfl ?_
  refine rs_aload_n ri_81_0 rfl rfl ?_
  refine rs_gf (v := .int (M.2.1 35 8)) ri_81_1 rfl (by decide) (ro_kf (kd_35 hL)) rfl rfl ?_
  refine rs_iret ri_81_4 rm_81.2.1 (by decide) ?_
  exact ⟨by rfl, by rfl⟩
/-- RefusedOnce$Evening.whoRefused()I -/
def xf_82 (M : ro_Mm) : Int32 := (M.2.1 35 9)
theorem xs_82 {X : ro_Sx} {M : ro_Mm} (hL : ro_lay M) : ro_cwp X 1 82 [.ref 35] M (fun v M2 => v = some (.int (xf_82 M)) ∧ M2 = M) := by
  refine rs_begin (lv0 := [(0, .ref 35)]) (by decide) rfl (by rw [rm_82.1]; exact Nat.le_of_ble_eq_true rfl) rfl ?_
  refine rs_aload_n ri_82_0 rfl rfl ?_
  refine rs_gf (v := .int (M.2.1 35 9)) ri_82_1 rfl (by decide) (ro_kf (kd_35 hL)) rfl rfl ?_
  refine rs_iret ri_82_4 rm_82.2.1 (by decide) ?_
  exact ⟨by rfl, by rfl⟩
/-- RefusedOnce$Payings.length()I -/
def xf_85 (M : ro_Mm) : Int32 := (M.2.1 42 5)
theorem xs_85 {X : ro_Sx} {M : ro_Mm} (hL : ro_lay M) : ro_cwp X 1 85 [.ref 42] M (fun v M2 => v = some (.int (xf_85 M)) ∧ M2 = M) := by
  refine rs_begin (lv0 := [(0, .ref 42)]) (by decide) rfl (by rw [rm_85.1]; exact Nat.le_of_ble_eq_true rfl) rfl ?_
  refine rs_aload_n ri_85_0 rfl rfl ?_
  refine rs_gf (v := .int (M.2.1 42 5)) ri_85_1 rfl (by decide) (ro_kf (kd_42 hL)) rfl rfl ?_
  refine rs_iret ri_85_4 rm_85.2.1 (by decide) ?_
  exact ⟨by rfl, by rfl⟩
/-- RefusedOnce$Purses.takeBackRefusal(I)V -/
def xm_90 (M : ro_Mm) (c0 : Nat) (v1 : Int32) : ro_Mm := (xm_17 (xm_16 M c0 v1 ((xf_31 M c0 v1) + (1 : Int32))) c0 v1 ((xf_32 (xm_16 M c0 v1 ((xf_31 M c0 v1) + (1 : Int32))) c0 v1) - (1 : Int32)))
theorem xs_90 {X : ro_Sx} {M : ro_Mm} {c0 : Nat} {v1 : Int32} (hL : ro_lay M) (hc0 : ro_ip c0) : ro_cwp X 2 90 [.ref c0, .int v1] M (fun v M2 => v = none ∧ M2 = xm_90 M c0 v1) := by
  refine rs_begin (lv0 := [(0, .ref c0), (1, .int v1)]) (by decide) rfl (by rw [rm_90.1]; exact Nat.le_of_ble_eq_true rfl) rfl ?_
  refine rs_aload_n ri_90_0 rfl rfl ?_
  refine rs_iload_n ri_90_1 rfl rfl ?_
  refine rs_aload_n ri_90_2 rfl rfl ?_
  refine rs_iload_n ri_90_3 rfl rfl ?_
  refine rs_virt (As := [.int v1]) (r := [.int v1, .ref c0]) ri_90_4 rfl (by decide) rm_31.2.2.2 rm_31.2.2.1 rfl rfl rfl (ro_ip4 hc0) (ro_kf (ip_kd hL hc0)) (Nat.le_of_ble_eq_true rfl) (by decide) (by decide) (xs_31 (X := X) hL hc0) ?_
  rintro _ _ ⟨e1, e2⟩
  rw [e1, e2]
  show ro_w X _ 90 _ 7 [(0, .ref c0), (1, .int v1)] [.int (xf_31 M c0 v1), .int v1, .ref c0] M (0, 0)
  refine rs_iconst (v := (1 : Int32)) ri_90_7 rfl (by decide) ?_
  refine rs_iadd (r := ((xf_31 M c0 v1) + (1 : Int32))) ri_90_8 rfl rfl ?_
  refine rs_virt (As := [.int v1, .int ((xf_31 M c0 v1) + (1 : Int32))]) (r := []) ri_90_9 rfl (by decide) rm_16.2.2.2 rm_16.2.2.1 rfl rfl rfl (ro_ip4 hc0) (ro_kf (ip_kd hL hc0)) (Nat.le_of_ble_eq_true rfl) (by decide) (by decide) (xs_16 (X := X) hL hc0) ?_
  rintro _ _ ⟨e1, e2⟩
  rw [e1, e2]
  show ro_w X _ 90 _ 12 [(0, .ref c0), (1, .int v1)] [] (xm_16 M c0 v1 ((xf_31 M c0 v1) + (1 : Int32))) (0, 0)
  refine rs_aload_n ri_90_12 rfl rfl ?_
  refine rs_iload_n ri_90_13 rfl rfl ?_
  refine rs_aload_n ri_90_14 rfl rfl ?_
  refine rs_iload_n ri_90_15 rfl rfl ?_
  refine rs_virt (As := [.int v1]) (r := [.int v1, .ref c0]) ri_90_16 rfl (by decide) rm_32.2.2.2 rm_32.2.2.1 rfl rfl rfl (ro_ip4 hc0) (ro_kf (ip_kd (xl_16 hL hc0) hc0)) (Nat.le_of_ble_eq_true rfl) (by decide) (by decide) (xs_32 (X := X) (xl_16 hL hc0) hc0) ?_
  rintro _ _ ⟨e1, e2⟩
  rw [e1, e2]
  show ro_w X _ 90 _ 19 [(0, .ref c0), (1, .int v1)] [.int (xf_32 (xm_16 M c0 v1 ((xf_31 M c0 v1) + (1 : Int32))) c0 v1), .int v1, .ref c0] (xm_16 M c0 v1 ((xf_31 M c0 v1) + (1 : Int32))) (0, 0)
  refine rs_iconst (v := (1 : Int32)) ri_90_19 rfl (by decide) ?_
  refine rs_isub (r := ((xf_32 (xm_16 M c0 v1 ((xf_31 M c0 v1) + (1 : Int32))) c0 v1) - (1 : Int32))) ri_90_20 rfl rfl ?_
  refine rs_virt (As := [.int v1, .int ((xf_32 (xm_16 M c0 v1 ((xf_31 M c0 v1) + (1 : Int32))) c0 v1) - (1 : Int32))]) (r := []) ri_90_21 rfl (by decide) rm_17.2.2.2 rm_17.2.2.1 rfl rfl rfl (ro_ip4 hc0) (ro_kf (ip_kd (xl_16 hL hc0) hc0)) (Nat.le_of_ble_eq_true rfl) (by decide) (by decide) (xs_17 (X := X) (xl_16 hL hc0) hc0) ?_
  rintro _ _ ⟨e1, e2⟩
  rw [e1, e2]
  show ro_w X _ 90 _ 24 [(0, .ref c0), (1, .int v1)] [] (xm_17 (xm_16 M c0 v1 ((xf_31 M c0 v1) + (1 : Int32))) c0 v1 ((xf_32 (xm_16 M c0 v1 ((xf_31 M c0 v1) + (1 : Int32))) c0 v1) - (1 : Int32))) (0, 0)
  refine rs_ret ri_90_24 rm_90.2.1 (by decide) ?_
  exact ⟨by rfl, by rfl⟩
theorem xl_90 {M : ro_Mm} {c0 : Nat} {v1 : Int32} (hL : ro_lay M) (hc0 : ro_ip c0) : ro_lay (xm_90 M c0 v1) := by
  unfold xm_90
  exact (xl_17 (xl_16 hL hc0) hc0)
theorem xwI_90 {M : ro_Mm} {c0 : Nat} {v1 : Int32} {c j : Nat} (n0 : c ≠ (c0 + 1)) (n1 : c ≠ (c0 + 2)) : (xm_90 M c0 v1).2.1 c j = M.2.1 c j := by
  unfold xm_90
  first | done | exact (((xwI_17 n1)).trans (xwI_16 n0))
theorem xwJ_90 {M : ro_Mm} {c0 : Nat} {v1 : Int32} {c j : Nat} : (xm_90 M c0 v1).2.2.1 c j = M.2.2.1 c j := by
  unfold xm_90
  first | done | exact (((xwJ_17)).trans (xwJ_16))

