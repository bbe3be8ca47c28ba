/-! methods, by program (wip/whole/walk2.py, mk30.py) -/
/-- RefusedOnce$Changes.forgetOldest()V -/
def xm_35 (M : ro_Mm) : ro_Mm := (ro_cpI (ro_cpI (ro_cpI (ro_cpI (ro_sI M 54 4 (39 : Int32)) 55 (1 : Int32) 55 (0 : Int32) (39 : Int32)) 56 (1 : Int32) 56 (0 : Int32) (39 : Int32)) 57 (1 : Int32) 57 (0 : Int32) (39 : Int32)) 58 (1 : Int32) 58 (0 : Int32) (39 : Int32))
theorem xs_35 {X : ro_Sx} {M : ro_Mm} (hL : ro_lay M) : ro_cwp X 1 35 [.ref 54] M (fun v M2 => v = none ∧ M2 = xm_35 M) := by
  refine rs_begin (lv0 := [(0, .ref 54)]) (by decide) rfl (by rw [rm_35.1]; exact Nat.le_of_ble_eq_true rfl) rfl ?_
  refine rs_aload_n ri_35_0 rfl rfl ?_
  refine rs_bipush (v := (39 : Int32)) ri_35_1 rfl (by decide) ?_
  refine rs_pf (M2 := (ro_sI M 54 4 (39 : Int32))) ri_35_3 rfl (by decide) (ro_kf (kd_54 hL)) (fun h => absurd h (by decide)) (fun f h => h) ?_
  refine rs_aload_n ri_35_6 rfl rfl ?_
  refine rs_gf (v := .ref 55) ri_35_7 rfl (by decide) (ro_kf (kd_54 hL)) rfl (rf_54_0 hL) ?_
  refine rs_iconst (v := (1 : Int32)) ri_35_10 rfl (by decide) ?_
  refine rs_aload_n ri_35_11 rfl rfl ?_
  refine rs_gf (v := .ref 55) ri_35_12 rfl (by decide) (ro_kf (kd_54 hL)) rfl (rf_54_0 hL) ?_
  refine rs_iconst (v := (0 : Int32)) ri_35_15 rfl (by decide) ?_
  refine rs_bipush (v := (39 : Int32)) ri_35_16 rfl (by decide) ?_
  refine rs_cpI ri_35_18 rfl (Nat.le_of_ble_eq_true rfl) (by decide) (by decide) (kd_55 hL) (kd_55 hL) (by unfold ro_cpo; decide) ?_
  refine rs_aload_n ri_35_21 rfl rfl ?_
  refine rs_gf (v := .ref 56) ri_35_22 rfl (by decide) (ro_kf (kd_54 hL)) rfl (rf_54_1 hL) ?_
  refine rs_iconst (v := (1 : Int32)) ri_35_25 rfl (by decide) ?_
  refine rs_aload_n ri_35_26 rfl rfl ?_
  refine rs_gf (v := .ref 56) ri_35_27 rfl (by decide) (ro_kf (kd_54 hL)) rfl (rf_54_1 hL) ?_
  refine rs_iconst (v := (0 : Int32)) ri_35_30 rfl (by decide) ?_
  refine rs_bipush (v := (39 : Int32)) ri_35_31 rfl (by decide) ?_
  refine rs_cpI ri_35_33 rfl (Nat.le_of_ble_eq_true rfl) (by decide) (by decide) (kd_56 hL) (kd_56 hL) (by unfold ro_cpo; decide) ?_
  refine rs_aload_n ri_35_36 rfl rfl ?_
  refine rs_gf (v := .ref 57) ri_35_37 rfl (by decide) (ro_kf (kd_54 hL)) rfl (rf_54_2 hL) ?_
  refine rs_iconst (v := (1 : Int32)) ri_35_40 rfl (by decide) ?_
  refine rs_aload_n ri_35_41 rfl rfl ?_
  refine rs_gf (v := .ref 57) ri_35_42 rfl (by decide) (ro_kf (kd_54 hL)) rfl (rf_54_2 hL) ?_
  refine rs_iconst (v := (0 : Int32)) ri_35_45 rfl (by decide) ?_
  refine rs_bipush (v := (39 : Int32)) ri_35_46 rfl (by decide) ?_
  refine rs_cpI ri_35_48 rfl (Nat.le_of_ble_eq_true rfl) (by decide) (by decide) (kd_57 hL) (kd_57 hL) (by unfold ro_cpo; decide) ?_
  refine rs_aload_n ri_35_51 rfl rfl ?_
  refine rs_gf (v := .ref 58) ri_35_52 rfl (by decide) (ro_kf (kd_54 hL)) rfl (rf_54_3 hL) ?_
  refine rs_iconst (v := (1 : Int32)) ri_35_55 rfl (by decide) ?_
  refine rs_aload_n ri_35_56 rfl rfl ?_
  refine rs_gf (v := .ref 58) ri_35_57 rfl (by decide) (ro_kf (kd_54 hL)) rfl (rf_54_3 hL) ?_
  refine rs_iconst (v := (0 : Int32)) ri_35_60 rfl (by decide) ?_
  refine rs_bipush (v := (39 : Int32)) ri_35_61 rfl (by decide) ?_
  refine rs_cpI ri_35_63 rfl (Nat.le_of_ble_eq_true rfl) (by decide) (by decide) (kd_58 hL) (kd_58 hL) (by unfold ro_cpo; decide) ?_
  refine rs_ret ri_35_66 rm_35.2.1 (by decide) ?_
  exact ⟨by rfl, by rfl⟩
theorem xl_35 {M : ro_Mm} (hL : ro_lay M) : ro_lay (xm_35 M) := by
  unfold xm_35
  exact hL
theorem xwI_35 {M : ro_Mm} {c j : Nat} (n0 : c ≠ 54) (n1 : c ≠ 55) (n2 : c ≠ 56) (n3 : c ≠ 57) (n4 : c ≠ 58) : (xm_35 M).2.1 c j = M.2.1 c j := by
  unfold xm_35
  first | done | exact ((((((xwI_cpI n4)).trans (xwI_cpI n3)).trans (xwI_cpI n2)).trans (xwI_cpI n1)).trans (ro_sI_ne n0))
theorem xwJ_35 {M : ro_Mm} {c j : Nat} : (xm_35 M).2.2.1 c j = M.2.2.1 c j := by
  unfold xm_35
  first | done | exact ((((((xwJ_cpI)).trans (xwJ_cpI)).trans (xwJ_cpI)).trans (xwJ_cpI)).trans (congrFun (congrFun ro_sI_J _) _))
/-- RefusedOnce$Land.keepImage()V -/
noncomputable def xm_151 (M : ro_Mm) : ro_Mm := (ro_sI (ro_sI (ro_sI (ro_cpI (xm_68 M 12 6 (M.2.1 5 4)) 11 (0 : Int32) 15 (0 : Int32) (4 : Int32)) 5 11 (M.2.1 5 4)) 5 12 (M.2.1 5 6)) 5 10 (1 : Int32))
def xp_151 (M : ro_Mm) : Prop := (xp_68 M 12 6 (M.2.1 5 4) ∧ True)
theorem xs_151 {X : ro_Sx} {M : ro_Mm} (hL : ro_lay M) (hp : xp_151 M) : ro_cwp X 3 151 [.ref 5] M (fun v M2 => v = none ∧ M2 = xm_151 M) := by
  refine rs_begin (lv0 := [(0, .ref 5)]) (by decide) rfl (by rw [rm_151.1]; exact Nat.le_of_ble_eq_true rfl) rfl ?_
  unfold xp_151 at hp
  refine rs_aload_n ri_151_0 rfl rfl ?_
  refine rs_gf (v := .ref 12) ri_151_1 rfl (by decide) (ro_kf (kd_5 hL)) rfl (rf_5_8 hL) ?_
  refine rs_aload_n ri_151_4 rfl rfl ?_
  refine rs_gf (v := .ref 6) ri_151_5 rfl (by decide) (ro_kf (kd_5 hL)) rfl (rf_5_0 hL) ?_
  refine rs_aload_n ri_151_8 rfl rfl ?_
  refine rs_gf (v := .int (M.2.1 5 4)) ri_151_9 rfl (by decide) (ro_kf (kd_5 hL)) rfl rfl ?_
  obtain ⟨q0, hp⟩ := hp
  refine rs_virt (As := [.ref 6, .int (M.2.1 5 4)]) (r := []) ri_151_12 rfl (by decide) rm_68.2.2.2 rm_68.2.2.1 rfl rfl rfl (by decide) (ro_kf (kd_12 hL)) (Nat.le_of_ble_eq_true rfl) (by decide) (by decide) (xs_68 (X := X) hL (by unfold ro_ip; decide) (by unfold ro_ip; decide) q0) ?_
  rintro _ _ ⟨e1, e2⟩
  rw [e1, e2]
  show ro_w X _ 151 _ 15 [(0, .ref 5)] [] (xm_68 M 12 6 (M.2.1 5 4)) (0, 0)
  refine rs_aload_n ri_151_15 rfl rfl ?_
  refine rs_gf (v := .ref 11) ri_151_16 rfl (by decide) (ro_kf (kd_5 (xl_68 hL (by unfold ro_ip; decide) (by unfold ro_ip; decide) q0))) rfl (rf_5_3 (xl_68 hL (by unfold ro_ip; decide) (by unfold ro_ip; decide) q0)) ?_
  refine rs_iconst (v := (0 : Int32)) ri_151_19 rfl (by decide) ?_
  refine rs_aload_n ri_151_20 rfl rfl ?_
  refine rs_gf (v := .ref 15) ri_151_21 rfl (by decide) (ro_kf (kd_5 (xl_68 hL (by unfold ro_ip; decide) (by unfold ro_ip; decide) q0))) rfl (rf_5_9 (xl_68 hL (by unfold ro_ip; decide) (by unfold ro_ip; decide) q0)) ?_
  refine rs_iconst (v := (0 : Int32)) ri_151_24 rfl (by decide) ?_
  refine rs_iconst (v := (4 : Int32)) ri_151_25 rfl (by decide) ?_
  refine rs_cpI ri_151_26 rfl (Nat.le_of_ble_eq_true rfl) (by decide) (by decide) (kd_11 (xl_68 hL (by unfold ro_ip; decide) (by unfold ro_ip; decide) q0)) (kd_15 (xl_68 hL (by unfold ro_ip; decide) (by unfold ro_ip; decide) q0)) (by unfold ro_cpo; decide) ?_
  refine rs_aload_n ri_151_29 rfl rfl ?_
  refine rs_aload_n ri_151_30 rfl rfl ?_
  refine rs_gf (v := .int (M.2.1 5 4)) ri_151_31 rfl (by decide) (ro_kf (kd_5 (xl_68 hL (by unfold ro_ip; decide) (by unfold ro_ip; decide) q0))) rfl (congrArg Value.int (((xwI_cpI (by decide))).trans (xwI_68 (by decide) (by decide)))) ?_
  refine rs_pf (M2 := (ro_sI (ro_cpI (xm_68 M 12 6 (M.2.1 5 4)) 11 (0 : Int32) 15 (0 : Int32) (4 : Int32)) 5 11 (M.2.1 5 4))) ri_151_34 rfl (by decide) (ro_kf (kd_5 (xl_68 hL (by unfold ro_ip; decide) (by unfold ro_ip; decide) q0))) (fun h => absurd h (by decide)) (fun f h => h) ?_
  refine rs_aload_n ri_151_37 rfl rfl ?_
  refine rs_aload_n ri_151_38 rfl rfl ?_
  refine rs_gf (v := .int (M.2.1 5 6)) ri_151_39 rfl (by decide) (ro_kf (kd_5 (xl_68 hL (by unfold ro_ip; decide) (by unfold ro_ip; decide) q0))) rfl (congrArg Value.int ((((ro_sI_nj (by decide))).trans (xwI_cpI (by decide))).trans (xwI_68 (by decide) (by decide)))) ?_
  refine rs_pf (M2 := (ro_sI (ro_sI (ro_cpI (xm_68 M 12 6 (M.2.1 5 4)) 11 (0 : Int32) 15 (0 : Int32) (4 : Int32)) 5 11 (M.2.1 5 4)) 5 12 (M.2.1 5 6))) ri_151_42 rfl (by decide) (ro_kf (kd_5 (xl_68 hL (by unfold ro_ip; decide) (by unfold ro_ip; decide) q0))) (fun h => absurd h (by decide)) (fun f h => h) ?_
  refine rs_aload_n ri_151_45 rfl rfl ?_
  refine rs_iconst (v := (1 : Int32)) ri_151_46 rfl (by decide) ?_
  refine rs_pf (M2 := (ro_sI (ro_sI (ro_sI (ro_cpI (xm_68 M 12 6 (M.2.1 5 4)) 11 (0 : Int32) 15 (0 : Int32) (4 : Int32)) 5 11 (M.2.1 5 4)) 5 12 (M.2.1 5 6)) 5 10 (1 : Int32))) ri_151_47 rfl (by decide) (ro_kf (kd_5 (xl_68 hL (by unfold ro_ip; decide) (by unfold ro_ip; decide) q0))) (fun h => absurd h (by decide)) (fun f h => ⟨by decide, h⟩) ?_
  refine rs_ret ri_151_50 rm_151.2.1 (by decide) ?_
  exact ⟨by rfl, by rfl⟩
theorem xl_151 {M : ro_Mm} (hL : ro_lay M) (hp : xp_151 M) : ro_lay (xm_151 M) := by
  unfold xp_151 at hp
  unfold xm_151
  obtain ⟨q0, hp⟩ := hp
  exact (xl_68 hL (by unfold ro_ip; decide) (by unfold ro_ip; decide) q0)
theorem xwI_151 {M : ro_Mm} {c j : Nat} (n0 : c ≠ 13) (n1 : c ≠ 14) (n2 : c ≠ 15) (n3 : c ≠ 5) : (xm_151 M).2.1 c j = M.2.1 c j := by
  unfold xm_151
  first | done | exact ((((((ro_sI_ne n3)).trans (ro_sI_ne n3)).trans (ro_sI_ne n3)).trans (xwI_cpI n2)).trans (xwI_68 n0 n1))
theorem xwJ_151 {M : ro_Mm} {c j : Nat} : (xm_151 M).2.2.1 c j = M.2.2.1 c j := by
  unfold xm_151
  first | done | exact ((((((congrFun (congrFun ro_sI_J _) _)).trans (congrFun (congrFun ro_sI_J _) _)).trans (congrFun (congrFun ro_sI_J _) _)).trans (xwJ_cpI)).trans (xwJ_68))
/-- RefusedOnce$Land.layBack()Z -/
noncomputable def xf_153 (M : ro_Mm) : Bool := (if (M.2.1 5 10) = (0 : Int32) then false else true)
noncomputable def xm_153 (M : ro_Mm) : ro_Mm := (if (M.2.1 5 10) = (0 : Int32) then M else (ro_sI (ro_cpI (xm_68 M 6 12 (M.2.1 5 11)) 15 (0 : Int32) 11 (0 : Int32) (4 : Int32)) 5 6 (M.2.1 5 12)))
def xp_153 (M : ro_Mm) : Prop := (((M.2.1 5 10) = (0 : Int32) → True) ∧ (¬ ((M.2.1 5 10) = (0 : Int32)) → (xp_68 M 6 12 (M.2.1 5 11) ∧ True)))
theorem xs_153 {X : ro_Sx} {M : ro_Mm} (hL : ro_lay M) (hp : xp_153 M) : ro_cwp X 3 153 [.ref 5] M (fun v M2 => v = some (.int (ro_b (xf_153 M))) ∧ M2 = xm_153 M) := by
  refine rs_begin (lv0 := [(0, .ref 5)]) (by decide) rfl (by rw [rm_153.1]; exact Nat.le_of_ble_eq_true rfl) rfl ?_
  unfold xp_153 at hp
  refine rs_aload_n ri_153_0 rfl rfl ?_
  refine rs_gf (v := .int (M.2.1 5 10)) ri_153_1 rfl (by decide) (ro_kf (kd_5 hL)) rfl rfl ?_
  refine rs_if_ne (t := 9) ri_153_4 rfl rfl (fun h1 => ?_) (fun h1 => ?_)
  · have hp := hp.2 h1
    refine rs_aload_n ri_153_9 rfl rfl ?_
    refine rs_gf (v := .ref 6) ri_153_10 rfl (by decide) (ro_kf (kd_5 hL)) rfl (rf_5_0 hL) ?_
    refine rs_aload_n ri_153_13 rfl rfl ?_
    refine rs_gf (v := .ref 12) ri_153_14 rfl (by decide) (ro_kf (kd_5 hL)) rfl (rf_5_8 hL) ?_
    refine rs_aload_n ri_153_17 rfl rfl ?_
    refine rs_gf (v := .int (M.2.1 5 11)) ri_153_18 rfl (by decide) (ro_kf (kd_5 hL)) rfl rfl ?_
    obtain ⟨q1, hp⟩ := hp
    refine rs_virt (As := [.ref 12, .int (M.2.1 5 11)]) (r := []) ri_153_21 rfl (by decide) rm_68.2.2.2 rm_68.2.2.1 rfl rfl rfl (by decide) (ro_kf (kd_6 hL)) (Nat.le_of_ble_eq_true rfl) (by decide) (by decide) (xs_68 (X := X) hL (by unfold ro_ip; decide) (by unfold ro_ip; decide) q1) ?_
    rintro _ _ ⟨e1, e2⟩
    rw [e1, e2]
    show ro_w X _ 153 _ 24 [(0, .ref 5)] [] (xm_68 M 6 12 (M.2.1 5 11)) (0, 0)
    refine rs_aload_n ri_153_24 rfl rfl ?_
    refine rs_gf (v := .ref 15) ri_153_25 rfl (by decide) (ro_kf (kd_5 (xl_68 hL (by unfold ro_ip; decide) (by unfold ro_ip; decide) q1))) rfl (rf_5_9 (xl_68 hL (by unfold ro_ip; decide) (by unfold ro_ip; decide) q1)) ?_
    refine rs_iconst (v := (0 : Int32)) ri_153_28 rfl (by decide) ?_
    refine rs_aload_n ri_153_29 rfl rfl ?_
    refine rs_gf (v := .ref 11) ri_153_30 rfl (by decide) (ro_kf (kd_5 (xl_68 hL (by unfold ro_ip; decide) (by unfold ro_ip; decide) q1))) rfl (rf_5_3 (xl_68 hL (by unfold ro_ip; decide) (by unfold ro_ip; decide) q1)) ?_
    refine rs_iconst (v := (0 : Int32)) ri_153_33 rfl (by decide) ?_
    refine rs_iconst (v := (4 : Int32)) ri_153_34 rfl (by decide) ?_
    refine rs_cpI ri_153_35 rfl (Nat.le_of_ble_eq_true rfl) (by decide) (by decide) (kd_15 (xl_68 hL (by unfold ro_ip; decide) (by unfold ro_ip; decide) q1)) (kd_11 (xl_68 hL (by unfold ro_ip; decide) (by unfold ro_ip; decide) q1)) (by unfold ro_cpo; decide) ?_
    refine rs_aload_n ri_153_38 rfl rfl ?_
    refine rs_aload_n ri_153_39 rfl rfl ?_
    refine rs_gf (v := .int (M.2.1 5 12)) ri_153_40 rfl (by decide) (ro_kf (kd_5 (xl_68 hL (by unfold ro_ip; decide) (by unfold ro_ip; decide) q1))) rfl (congrArg Value.int (((xwI_cpI (by decide))).trans (xwI_68 (by decide) (by decide)))) ?_
    refine rs_pf (M2 := (ro_sI (ro_cpI (xm_68 M 6 12 (M.2.1 5 11)) 15 (0 : Int32) 11 (0 : Int32) (4 : Int32)) 5 6 (M.2.1 5 12))) ri_153_43 rfl (by decide) (ro_kf (kd_5 (xl_68 hL (by unfold ro_ip; decide) (by unfold ro_ip; decide) q1))) (fun h => absurd h (by decide)) (fun f h => h) ?_
    refine rs_iconst (v := (1 : Int32)) ri_153_46 rfl (by decide) ?_
    refine rs_zret (p := true) ri_153_47 rm_153.2.1 (by decide) rfl ?_
    exact ⟨by unfold xf_153; first | (simp only [if_neg h1]; done) | rfl, by unfold xm_153; first | (simp only [if_neg h1]; done) | rfl⟩
  · have hp := hp.1 h1
    refine rs_iconst (v := (0 : Int32)) ri_153_7 rfl (by decide) ?_
    refine rs_zret (p := false) ri_153_8 rm_153.2.1 (by decide) rfl ?_
    exact ⟨by unfold xf_153; first | (simp only [if_pos h1]; done) | rfl, by unfold xm_153; first | (simp only [if_pos h1]; done) | rfl⟩
theorem xl_153 {M : ro_Mm} (hL : ro_lay M) (hp : xp_153 M) : ro_lay (xm_153 M) := by
  unfold xp_153 at hp
  unfold xm_153
  by_cases hz : (M.2.1 5 10) = (0 : Int32)
  · have hp := hp.1 hz
    rw [if_pos hz]
    exact hL
  · have hp := hp.2 hz
    rw [if_neg hz]
    obtain ⟨q1, hp⟩ := hp
    exact (xl_68 hL (by unfold ro_ip; decide) (by unfold ro_ip; decide) q1)
theorem xwI_153 {M : ro_Mm} {c j : Nat} (n0 : c ≠ 7) (n1 : c ≠ 8) (n2 : c ≠ 11) (n3 : c ≠ 5) : (xm_153 M).2.1 c j = M.2.1 c j := by
  unfold xm_153
  by_cases hz : (M.2.1 5 10) = (0 : Int32)
  · rw [if_pos hz]
    first | done | exact rfl
  · rw [if_neg hz]
    first | done | exact ((((ro_sI_ne n3)).trans (xwI_cpI n2)).trans (xwI_68 n0 n1))
theorem xwJ_153 {M : ro_Mm} {c j : Nat} : (xm_153 M).2.2.1 c j = M.2.2.1 c j := by
  unfold xm_153
  by_cases hz : (M.2.1 5 10) = (0 : Int32)
  · rw [if_pos hz]
    first | done | exact rfl
  · rw [if_neg hz]
    first | done | exact ((((congrFun (congrFun ro_sI_J _) _)).trans (xwJ_cpI)).trans (xwJ_68))
/-- RefusedOnce$Shelf.moveTo(ILRefusedOnce$Shelf;II)Z -/
def xf_186 (M : ro_Mm) (c0 : Nat) (v1 : Int32) (c2 : Nat) (v3 : Int32) (v4 : Int32) : Bool := (if v4 < (0 : Int32) then false else (if v1 < (0 : Int32) then false else (if v3 < (0 : Int32) then false else (if ((M.2.1 c0 2) - v4) < v1 then false else (if v3 ≤ ((M.2.1 c2 2) - v4) then (if ((60 : Int32) - v4) < v1 then false else (if v3 ≤ ((60 : Int32) - v4) then true else false)) else false)))))
def xm_186 (M : ro_Mm) (c0 : Nat) (v1 : Int32) (c2 : Nat) (v3 : Int32) (v4 : Int32) : ro_Mm := (if v4 < (0 : Int32) then M else (if v1 < (0 : Int32) then M else (if v3 < (0 : Int32) then M else (if ((M.2.1 c0 2) - v4) < v1 then M else (if v3 ≤ ((M.2.1 c2 2) - v4) then (if ((60 : Int32) - v4) < v1 then M else (if v3 ≤ ((60 : Int32) - v4) then (ro_cpJ M (c0 + 1) v1 (c2 + 1) v3 v4) else M)) else M)))))
def xp_186 (M : ro_Mm) (c0 : Nat) (v1 : Int32) (c2 : Nat) (v3 : Int32) (v4 : Int32) : Prop := ((v4 < (0 : Int32) → True) ∧ (¬ (v4 < (0 : Int32)) → ((v1 < (0 : Int32) → True) ∧ (¬ (v1 < (0 : Int32)) → ((v3 < (0 : Int32) → True) ∧ (¬ (v3 < (0 : Int32)) → ((((M.2.1 c0 2) - v4) < v1 → True) ∧ (¬ (((M.2.1 c0 2) - v4) < v1) → ((v3 ≤ ((M.2.1 c2 2) - v4) → ((((60 : Int32) - v4) < v1 → True) ∧ (¬ (((60 : Int32) - v4) < v1) → ((v3 ≤ ((60 : Int32) - v4) → (ro_cpo v1 v3 v4 60 60 ∧ True)) ∧ (¬ (v3 ≤ ((60 : Int32) - v4)) → True))))) ∧ (¬ (v3 ≤ ((M.2.1 c2 2) - v4)) → True))))))))))
theorem xl_186 {M : ro_Mm} {c0 : Nat} {v1 : Int32} {c2 : Nat} {v3 : Int32} {v4 : Int32} (hL : ro_lay M) (hc0 : ro_is c0) (hc2 : ro_is c2) (hp : xp_186 M c0 v1 c2 v3 v4) : ro_lay (xm_186 M c0 v1 c2 v3 v4) := by
  unfold xp_186 at hp
  unfold xm_186
  by_cases hz : v4 < (0 : Int32)
  · have hp := hp.1 hz
    rw [if_pos hz]
    exact hL
  · have hp := hp.2 hz
    rw [if_neg hz]
    by_cases hz : v1 < (0 : Int32)
    · have hp := hp.1 hz
      rw [if_pos hz]
      exact hL
    · have hp := hp.2 hz
      rw [if_neg hz]
      by_cases hz : v3 < (0 : Int32)
      · have hp := hp.1 hz
        rw [if_pos hz]
        exact hL
      · have hp := hp.2 hz
        rw [if_neg hz]
        by_cases hz : ((M.2.1 c0 2) - v4) < v1
        · have hp := hp.1 hz
          rw [if_pos hz]
          exact hL
        · have hp := hp.2 hz
          rw [if_neg hz]
          by_cases hz : v3 ≤ ((M.2.1 c2 2) - v4)
          · have hp := hp.1 hz
            rw [if_pos hz]
            by_cases hz : ((60 : Int32) - v4) < v1
            · have hp := hp.1 hz
              rw [if_pos hz]
              exact hL
            · have hp := hp.2 hz
              rw [if_neg hz]
              by_cases hz : v3 ≤ ((60 : Int32) - v4)
              · have hp := hp.1 hz
                rw [if_pos hz]
                obtain ⟨q7, hp⟩ := hp
                exact hL
              · have hp := hp.2 hz
                rw [if_neg hz]
                exact hL
          · have hp := hp.2 hz
            rw [if_neg hz]
            exact hL
theorem xwI_186 {M : ro_Mm} {c0 : Nat} {v1 : Int32} {c2 : Nat} {v3 : Int32} {v4 : Int32} {c j : Nat} : (xm_186 M c0 v1 c2 v3 v4).2.1 c j = M.2.1 c j := by
  unfold xm_186
  by_cases hz : v4 < (0 : Int32)
  · rw [if_pos hz]
    first | done | exact rfl
  · rw [if_neg hz]
    by_cases hz : v1 < (0 : Int32)
    · rw [if_pos hz]
      first | done | exact rfl
    · rw [if_neg hz]
      by_cases hz : v3 < (0 : Int32)
      · rw [if_pos hz]
        first | done | exact rfl
      · rw [if_neg hz]
        by_cases hz : ((M.2.1 c0 2) - v4) < v1
        · rw [if_pos hz]
          first | done | exact rfl
        · rw [if_neg hz]
          by_cases hz : v3 ≤ ((M.2.1 c2 2) - v4)
          · rw [if_pos hz]
            by_cases hz : ((60 : Int32) - v4) < v1
            · rw [if_pos hz]
              first | done | exact rfl
            · rw [if_neg hz]
              by_cases hz : v3 ≤ ((60 : Int32) - v4)
              · rw [if_pos hz]
                first | done | exact (xwI_cpJ)
              · rw [if_neg hz]
                first | done | exact rfl
          · rw [if_neg hz]
            first | done | exact rfl
theorem xwJ_186 {M : ro_Mm} {c0 : Nat} {v1 : Int32} {c2 : Nat} {v3 : Int32} {v4 : Int32} {c j : Nat} (n0 : c ≠ (c2 + 1)) : (xm_186 M c0 v1 c2 v3 v4).2.2.1 c j = M.2.2.1 c j := by
  unfold xm_186
  by_cases hz : v4 < (0 : Int32)
  · rw [if_pos hz]
    first | done | exact rfl
  · rw [if_neg hz]
    by_cases hz : v1 < (0 : Int32)
    · rw [if_pos hz]
      first | done | exact rfl
    · rw [if_neg hz]
      by_cases hz : v3 < (0 : Int32)
      · rw [if_pos hz]
        first | done | exact rfl
      · rw [if_neg hz]
        by_cases hz : ((M.2.1 c0 2) - v4) < v1
        · rw [if_pos hz]
          first | done | exact rfl
        · rw [if_neg hz]
          by_cases hz : v3 ≤ ((M.2.1 c2 2) - v4)
          · rw [if_pos hz]
            by_cases hz : ((60 : Int32) - v4) < v1
            · rw [if_pos hz]
              first | done | exact rfl
            · rw [if_neg hz]
              by_cases hz : v3 ≤ ((60 : Int32) - v4)
              · rw [if_pos hz]
                first | done | exact (xwJ_cpJ n0)
              · rw [if_neg hz]
                first | done | exact rfl
          · rw [if_neg hz]
            first | done | exact rfl
/-- RefusedOnce$Changes.note(IIII)V -/
def xm_34 (M : ro_Mm) (v1 : Int32) (v2 : Int32) (v3 : Int32) (v4 : Int32) : ro_Mm := (if (M.2.1 54 4) < (40 : Int32) then (if (M.2.1 54 4) < (0 : Int32) then (ro_sI M 54 5 (0 : Int32)) else (if (40 : Int32) ≤ (M.2.1 54 4) then (ro_sI M 54 5 (0 : Int32)) else (ro_sI (ro_sI (ro_sI (ro_sI (ro_sI (ro_sI M 55 ((M.2.1 54 4).toNatClampNeg) v1) 56 ((M.2.1 54 4).toNatClampNeg) v2) 57 ((M.2.1 54 4).toNatClampNeg) v3) 58 ((M.2.1 54 4).toNatClampNeg) v4) 54 4 ((M.2.1 54 4) + (1 : Int32))) 54 5 (0 : Int32)))) else (if ((xm_35 M).2.1 54 4) < (0 : Int32) then (ro_sI (xm_35 M) 54 5 (0 : Int32)) else (if (40 : Int32) ≤ ((xm_35 M).2.1 54 4) then (ro_sI (xm_35 M) 54 5 (0 : Int32)) else (ro_sI (ro_sI (ro_sI (ro_sI (ro_sI (ro_sI (xm_35 M) 55 (((xm_35 M).2.1 54 4).toNatClampNeg) v1) 56 (((xm_35 M).2.1 54 4).toNatClampNeg) v2) 57 (((xm_35 M).2.1 54 4).toNatClampNeg) v3) 58 (((xm_35 M).2.1 54 4).toNatClampNeg) v4) 54 4 (((xm_35 M).2.1 54 4) + (1 : Int32))) 54 5 (0 : Int32)))))
theorem xs_34 {X : ro_Sx} {M : ro_Mm} {v1 : Int32} {v2 : Int32} {v3 : Int32} {v4 : Int32} (hL : ro_lay M) : ro_cwp X 2 34 [.ref 54, .int v1, .int v2, .int v3, .int v4] M (fun v M2 => v = none ∧ M2 = xm_34 M v1 v2 v3 v4) := by
  refine rs_begin (lv0 := [(0, .ref 54), (1, .int v1), (2, .int v2), (3, .int v3), (4, .int v4)]) (by decide) rfl (by rw [rm_34.1]; exact Nat.le_of_ble_eq_true rfl) rfl ?_
  refine rs_aload_n ri_34_0 rfl rfl ?_
  refine rs_gf (v := .int (M.2.1 54 4)) ri_34_1 rfl (by decide) (ro_kf (kd_54 hL)) rfl rfl ?_
  refine rs_bipush (v := (40 : Int32)) ri_34_4 rfl (by decide) ?_
  refine rs_icmp_lt (t := 13) ri_34_6 rfl rfl (fun h1 => ?_) (fun h1 => ?_)
  · skip
    refine rs_aload_n ri_34_13 rfl rfl ?_
    refine rs_gf (v := .int (M.2.1 54 4)) ri_34_14 rfl (by decide) (ro_kf (kd_54 hL)) rfl rfl ?_
    refine rs_if_lt (t := 80) ri_34_17 rfl rfl (fun h2 => ?_) (fun h2 => ?_)
    · skip
      refine rs_aload_n ri_34_80 rfl rfl ?_
      refine rs_iconst (v := (0 : Int32)) ri_34_81 rfl (by decide) ?_
      refine rs_pf (M2 := (ro_sI M 54 5 (0 : Int32))) ri_34_82 rfl (by decide) (ro_kf (kd_54 hL)) (fun h => absurd h (by decide)) (fun f h => h) ?_
      refine rs_ret ri_34_85 rm_34.2.1 (by decide) ?_
      exact ⟨by rfl, by unfold xm_34; first | (simp only [if_pos h1, if_pos h2]; done) | rfl⟩
    · skip
      refine rs_aload_n ri_34_20 rfl rfl ?_
      refine rs_gf (v := .int (M.2.1 54 4)) ri_34_21 rfl (by decide) (ro_kf (kd_54 hL)) rfl rfl ?_
      refine rs_bipush (v := (40 : Int32)) ri_34_24 rfl (by decide) ?_
      refine rs_icmp_ge (t := 80) ri_34_26 rfl rfl (fun h3 => ?_) (fun h3 => ?_)
      · skip
        refine rs_aload_n ri_34_80 rfl rfl ?_
        refine rs_iconst (v := (0 : Int32)) ri_34_81 rfl (by decide) ?_
        refine rs_pf (M2 := (ro_sI M 54 5 (0 : Int32))) ri_34_82 rfl (by decide) (ro_kf (kd_54 hL)) (fun h => absurd h (by decide)) (fun f h => h) ?_
        refine rs_ret ri_34_85 rm_34.2.1 (by decide) ?_
        exact ⟨by rfl, by unfold xm_34; first | (simp only [if_pos h1, if_neg h2, if_pos h3]; done) | rfl⟩
      · skip
        refine rs_aload_n ri_34_29 rfl rfl ?_
        refine rs_gf (v := .ref 55) ri_34_30 rfl (by decide) (ro_kf (kd_54 hL)) rfl (rf_54_0 hL) ?_
        refine rs_aload_n ri_34_33 rfl rfl ?_
        refine rs_gf (v := .int (M.2.1 54 4)) ri_34_34 rfl (by decide) (ro_kf (kd_54 hL)) rfl rfl ?_
        refine rs_iload_n ri_34_37 rfl rfl ?_
        refine rs_iast (j := (M.2.1 54 4).toNatClampNeg) ri_34_38 rfl (by decide) (kd_55 hL) (vp_in_iff.mpr ⟨(ro_lo1 h2), (ro_hi2 h3 (by decide))⟩) rfl ?_
        refine rs_aload_n ri_34_39 rfl rfl ?_
        refine rs_gf (v := .ref 56) ri_34_40 rfl (by decide) (ro_kf (kd_54 hL)) rfl (rf_54_1 hL) ?_
        refine rs_aload_n ri_34_43 rfl rfl ?_
        refine rs_gf (v := .int (M.2.1 54 4)) ri_34_44 rfl (by decide) (ro_kf (kd_54 hL)) rfl rfl ?_
        refine rs_iload_n ri_34_47 rfl rfl ?_
        refine rs_iast (j := (M.2.1 54 4).toNatClampNeg) ri_34_48 rfl (by decide) (kd_56 hL) (vp_in_iff.mpr ⟨(ro_lo1 h2), (ro_hi2 h3 (by decide))⟩) rfl ?_
        refine rs_aload_n ri_34_49 rfl rfl ?_
        refine rs_gf (v := .ref 57) ri_34_50 rfl (by decide) (ro_kf (kd_54 hL)) rfl (rf_54_2 hL) ?_
        refine rs_aload_n ri_34_53 rfl rfl ?_
        refine rs_gf (v := .int (M.2.1 54 4)) ri_34_54 rfl (by decide) (ro_kf (kd_54 hL)) rfl rfl ?_
        refine rs_iload_n ri_34_57 rfl rfl ?_
        refine rs_iast (j := (M.2.1 54 4).toNatClampNeg) ri_34_58 rfl (by decide) (kd_57 hL) (vp_in_iff.mpr ⟨(ro_lo1 h2), (ro_hi2 h3 (by decide))⟩) rfl ?_
        refine rs_aload_n ri_34_59 rfl rfl ?_
        refine rs_gf (v := .ref 58) ri_34_60 rfl (by decide) (ro_kf (kd_54 hL)) rfl (rf_54_3 hL) ?_
        refine rs_aload_n ri_34_63 rfl rfl ?_
        refine rs_gf (v := .int (M.2.1 54 4)) ri_34_64 rfl (by decide) (ro_kf (kd_54 hL)) rfl rfl ?_
        refine rs_iload ri_34_67 rfl rfl ?_
        refine rs_iast (j := (M.2.1 54 4).toNatClampNeg) ri_34_69 rfl (by decide) (kd_58 hL) (vp_in_iff.mpr ⟨(ro_lo1 h2), (ro_hi2 h3 (by decide))⟩) rfl ?_
        refine rs_aload_n ri_34_70 rfl rfl ?_
        refine rs_dup ri_34_71 rfl rfl ?_
        refine rs_gf (v := .int (M.2.1 54 4)) ri_34_72 rfl (by decide) (ro_kf (kd_54 hL)) rfl rfl ?_
        refine rs_iconst (v := (1 : Int32)) ri_34_75 rfl (by decide) ?_
        refine rs_iadd (r := ((M.2.1 54 4) + (1 : Int32))) ri_34_76 rfl rfl ?_
        refine rs_pf (M2 := (ro_sI (ro_sI (ro_sI (ro_sI (ro_sI M 55 ((M.2.1 54 4).toNatClampNeg) v1) 56 ((M.2.1 54 4).toNatClampNeg) v2) 57 ((M.2.1 54 4).toNatClampNeg) v3) 58 ((M.2.1 54 4).toNatClampNeg) v4) 54 4 ((M.2.1 54 4) + (1 : Int32)))) ri_34_77 rfl (by decide) (ro_kf (kd_54 hL)) (fun h => absurd h (by decide)) (fun f h => h) ?_
        refine rs_aload_n ri_34_80 rfl rfl ?_
        refine rs_iconst (v := (0 : Int32)) ri_34_81 rfl (by decide) ?_
        refine rs_pf (M2 := (ro_sI (ro_sI (ro_sI (ro_sI (ro_sI (ro_sI M 55 ((M.2.1 54 4).toNatClampNeg) v1) 56 ((M.2.1 54 4).toNatClampNeg) v2) 57 ((M.2.1 54 4).toNatClampNeg) v3) 58 ((M.2.1 54 4).toNatClampNeg) v4) 54 4 ((M.2.1 54 4) + (1 : Int32))) 54 5 (0 : Int32))) ri_34_82 rfl (by decide) (ro_kf (kd_54 hL)) (fun h => absurd h (by decide)) (fun f h => h) ?_
        refine rs_ret ri_34_85 rm_34.2.1 (by decide) ?_
        exact ⟨by rfl, by unfold xm_34; first | (simp only [if_pos h1, if_neg h2, if_neg h3]; done) | rfl⟩
  · skip
    refine rs_aload_n ri_34_9 rfl rfl ?_
    refine rs_virt (As := []) (r := []) ri_34_10 rfl (by decide) rm_35.2.2.2 rm_35.2.2.1 rfl rfl rfl (by decide) (ro_kf (kd_54 hL)) (Nat.le_of_ble_eq_true rfl) (by decide) (by decide) (xs_35 (X := X) hL) ?_
    rintro _ _ ⟨e1, e2⟩
    rw [e1, e2]
    show ro_w X _ 34 _ 13 [(0, .ref 54), (1, .int v1), (2, .int v2), (3, .int v3), (4, .int v4)] [] (xm_35 M) (0, 0)
    refine rs_aload_n ri_34_13 rfl rfl ?_
    refine rs_gf (v := .int ((xm_35 M).2.1 54 4)) ri_34_14 rfl (by decide) (ro_kf (kd_54 (xl_35 hL))) rfl rfl ?_
    refine rs_if_lt (t := 80) ri_34_17 rfl rfl (fun h4 => ?_) (fun h4 => ?_)
    · skip
      refine rs_aload_n ri_34_80 rfl rfl ?_
      refine rs_iconst (v := (0 : Int32)) ri_34_81 rfl (by decide) ?_
      refine rs_pf (M2 := (ro_sI (xm_35 M) 54 5 (0 : Int32))) ri_34_82 rfl (by decide) (ro_kf (kd_54 (xl_35 hL))) (fun h => absurd h (by decide)) (fun f h => h) ?_
      refine rs_ret ri_34_85 rm_34.2.1 (by decide) ?_
      exact ⟨by rfl, by unfold xm_34; first | (simp only [if_neg h1, if_pos h4]; done) | rfl⟩
    · skip
      refine rs_aload_n ri_34_20 rfl rfl ?_
      refine rs_gf (v := .int ((xm_35 M).2.1 54 4)) ri_34_21 rfl (by decide) (ro_kf (kd_54 (xl_35 hL))) rfl rfl ?_
      refine rs_bipush (v := (40 : Int32)) ri_34_24 rfl (by decide) ?_
      refine rs_icmp_ge (t := 80) ri_34_26 rfl rfl (fun h5 => ?_) (fun h5 => ?_)
      · skip
        refine rs_aload_n ri_34_80 rfl rfl ?_
        refine rs_iconst (v := (0 : Int32)) ri_34_81 rfl (by decide) ?_
        refine rs_pf (M2 := (ro_sI (xm_35 M) 54 5 (0 : Int32))) ri_34_82 rfl (by decide) (ro_kf (kd_54 (xl_35 hL))) (fun h => absurd h (by decide)) (fun f h => h) ?_
        refine rs_ret ri_34_85 rm_34.2.1 (by decide) ?_
        exact ⟨by rfl, by unfold xm_34; first | (simp only [if_neg h1, if_neg h4, if_pos h5]; done) | rfl⟩
      · skip
        refine rs_aload_n ri_34_29 rfl rfl ?_
        refine rs_gf (v := .ref 55) ri_34_30 rfl (by decide) (ro_kf (kd_54 (xl_35 hL))) rfl (rf_54_0 (xl_35 hL)) ?_
        refine rs_aload_n ri_34_33 rfl rfl ?_
        refine rs_gf (v := .int ((xm_35 M).2.1 54 4)) ri_34_34 rfl (by decide) (ro_kf (kd_54 (xl_35 hL))) rfl rfl ?_
        refine rs_iload_n ri_34_37 rfl rfl ?_
        refine rs_iast (j := ((xm_35 M).2.1 54 4).toNatClampNeg) ri_34_38 rfl (by decide) (kd_55 (xl_35 hL)) (vp_in_iff.mpr ⟨(ro_lo1 h4), (ro_hi2 h5 (by decide))⟩) rfl ?_
        refine rs_aload_n ri_34_39 rfl rfl ?_
        refine rs_gf (v := .ref 56) ri_34_40 rfl (by decide) (ro_kf (kd_54 (xl_35 hL))) rfl (rf_54_1 (xl_35 hL)) ?_
        refine rs_aload_n ri_34_43 rfl rfl ?_
        refine rs_gf (v := .int ((xm_35 M).2.1 54 4)) ri_34_44 rfl (by decide) (ro_kf (kd_54 (xl_35 hL))) rfl rfl ?_
        refine rs_iload_n ri_34_47 rfl rfl ?_
        refine rs_iast (j := ((xm_35 M).2.1 54 4).toNatClampNeg) ri_34_48 rfl (by decide) (kd_56 (xl_35 hL)) (vp_in_iff.mpr ⟨(ro_lo1 h4), (ro_hi2 h5 (by decide))⟩) rfl ?_
        refine rs_aload_n ri_34_49 rfl rfl ?_
        refine rs_gf (v := .ref 57) ri_34_50 rfl (by decide) (ro_kf (kd_54 (xl_35 hL))) rfl (rf_54_2 (xl_35 hL)) ?_
        refine rs_aload_n ri_34_53 rfl rfl ?_
        refine rs_gf (v := .int ((xm_35 M).2.1 54 4)) ri_34_54 rfl (by decide) (ro_kf (kd_54 (xl_35 hL))) rfl rfl ?_
        refine rs_iload_n ri_34_57 rfl rfl ?_
        refine rs_iast (j := ((xm_35 M).2.1 54 4).toNatClampNeg) ri_34_58 rfl (by decide) (kd_57 (xl_35 hL)) (vp_in_iff.mpr ⟨(ro_lo1 h4), (ro_hi2 h5 (by decide))⟩) rfl ?_
        refine rs_aload_n ri_34_59 rfl rfl ?_
        refine rs_gf (v := .ref 58) ri_34_60 rfl (by decide) (ro_kf (kd_54 (xl_35 hL))) rfl (rf_54_3 (xl_35 hL)) ?_
        refine rs_aload_n ri_34_63 rfl rfl ?_
        refine rs_gf (v := .int ((xm_35 M).2.1 54 4)) ri_34_64 rfl (by decide) (ro_kf (kd_54 (xl_35 hL))) rfl rfl ?_
        refine rs_iload ri_34_67 rfl rfl ?_
        refine rs_iast (j := ((xm_35 M).2.1 54 4).toNatClampNeg) ri_34_69 rfl (by decide) (kd_58 (xl_35 hL)) (vp_in_iff.mpr ⟨(ro_lo1 h4), (ro_hi2 h5 (by decide))⟩) rfl ?_
        refine rs_aload_n ri_34_70 rfl rfl ?_
        refine rs_dup ri_34_71 rfl rfl ?_
        refine rs_gf (v := .int ((xm_35 M).2.1 54 4)) ri_34_72 rfl (by decide) (ro_kf (kd_54 (xl_35 hL))) rfl rfl ?_
        refine rs_iconst (v := (1 : Int32)) ri_34_75 rfl (by decide) ?_
        refine rs_iadd (r := (((xm_35 M).2.1 54 4) + (1 : Int32))) ri_34_76 rfl rfl ?_
        refine rs_pf (M2 := (ro_sI (ro_sI (ro_sI (ro_sI (ro_sI (xm_35 M) 55 (((xm_35 M).2.1 54 4).toNatClampNeg) v1) 56 (((xm_35 M).2.1 54 4).toNatClampNeg) v2) 57 (((xm_35 M).2.1 54 4).toNatClampNeg) v3) 58 (((xm_35 M).2.1 54 4).toNatClampNeg) v4) 54 4 (((xm_35 M).2.1 54 4) + (1 : Int32)))) ri_34_77 rfl (by decide) (ro_kf (kd_54 (xl_35 hL))) (fun h => absurd h (by decide)) (fun f h => h) ?_
        refine rs_aload_n ri_34_80 rfl rfl ?_
        refine rs_iconst (v := (0 : Int32)) ri_34_81 rfl (by decide) ?_
        refine rs_pf (M2 := (ro_sI (ro_sI (ro_sI (ro_sI (ro_sI (ro_sI (xm_35 M) 55 (((xm_35 M).2.1 54 4).toNatClampNeg) v1) 56 (((xm_35 M).2.1 54 4).toNatClampNeg) v2) 57 (((xm_35 M).2.1 54 4).toNatClampNeg) v3) 58 (((xm_35 M).2.1 54 4).toNatClampNeg) v4) 54 4 (((xm_35 M).2.1 54 4) + (1 : Int32))) 54 5 (0 : Int32))) ri_34_82 rfl (by decide) (ro_kf (kd_54 (xl_35 hL))) (fun h => absurd h (by decide)) (fun f h => h) ?_
        refine rs_ret ri_34_85 rm_34.2.1 (by decide) ?_
        exact ⟨by rfl, by unfold xm_34; first | (simp only [if_neg h1, if_neg h4, if_neg h5]; done) | rfl⟩
theorem xl_34 {M : ro_Mm} {v1 : Int32} {v2 : Int32} {v3 : Int32} {v4 : Int32} (hL : ro_lay M) : ro_lay (xm_34 M v1 v2 v3 v4) := by
  unfold xm_34
  by_cases hz : (M.2.1 54 4) < (40 : Int32)
  · skip
    rw [if_pos hz]
    by_cases hz : (M.2.1 54 4) < (0 : Int32)
    · skip
      rw [if_pos hz]
      exact hL
    · skip
      rw [if_neg hz]
      by_cases hz : (40 : Int32) ≤ (M.2.1 54 4)
      · skip
        rw [if_pos hz]
        exact hL
      · skip
        rw [if_neg hz]
        exact hL
  · skip
    rw [if_neg hz]
    by_cases hz : ((xm_35 M).2.1 54 4) < (0 : Int32)
    · skip
      rw [if_pos hz]
      exact (xl_35 hL)
    · skip
      rw [if_neg hz]
      by_cases hz : (40 : Int32) ≤ ((xm_35 M).2.1 54 4)
      · skip
        rw [if_pos hz]
        exact (xl_35 hL)
      · skip
        rw [if_neg hz]
        exact (xl_35 hL)
theorem xwI_34 {M : ro_Mm} {v1 : Int32} {v2 : Int32} {v3 : Int32} {v4 : Int32} {c j : Nat} (n0 : c ≠ 54) (n1 : c ≠ 55) (n2 : c ≠ 56) (n3 : c ≠ 57) (n4 : c ≠ 58) : (xm_34 M v1 v2 v3 v4).2.1 c j = M.2.1 c j := by
  unfold xm_34
  by_cases hz : (M.2.1 54 4) < (40 : Int32)
  · rw [if_pos hz]
    by_cases hz : (M.2.1 54 4) < (0 : Int32)
    · rw [if_pos hz]
      first | done | exact (ro_sI_ne n0)
    · rw [if_neg hz]
      by_cases hz : (40 : Int32) ≤ (M.2.1 54 4)
      · rw [if_pos hz]
        first | done | exact (ro_sI_ne n0)
      · rw [if_neg hz]
        first | done | exact (((((((ro_sI_ne n0)).trans (ro_sI_ne n0)).trans (ro_sI_ne n4)).trans (ro_sI_ne n3)).trans (ro_sI_ne n2)).trans (ro_sI_ne n1))
  · rw [if_neg hz]
    by_cases hz : ((xm_35 M).2.1 54 4) < (0 : Int32)
    · rw [if_pos hz]
      first | done | exact (((ro_sI_ne n0)).trans (xwI_35 n0 n1 n2 n3 n4))
    · rw [if_neg hz]
      by_cases hz : (40 : Int32) ≤ ((xm_35 M).2.1 54 4)
      · rw [if_pos hz]
        first | done | exact (((ro_sI_ne n0)).trans (xwI_35 n0 n1 n2 n3 n4))
      · rw [if_neg hz]
        first | done | exact ((((((((ro_sI_ne n0)).trans (ro_sI_ne n0)).trans (ro_sI_ne n4)).trans (ro_sI_ne n3)).trans (ro_sI_ne n2)).trans (ro_sI_ne n1)).trans (xwI_35 n0 n1 n2 n3 n4))
theorem xwJ_34 {M : ro_Mm} {v1 : Int32} {v2 : Int32} {v3 : Int32} {v4 : Int32} {c j : Nat} : (xm_34 M v1 v2 v3 v4).2.2.1 c j = M.2.2.1 c j := by
  unfold xm_34
  by_cases hz : (M.2.1 54 4) < (40 : Int32)
  · rw [if_pos hz]
    by_cases hz : (M.2.1 54 4) < (0 : Int32)
    · rw [if_pos hz]
      first | done | exact rfl
    · rw [if_neg hz]
      by_cases hz : (40 : Int32) ≤ (M.2.1 54 4)
      · rw [if_pos hz]
        first | done | exact rfl
      · rw [if_neg hz]
        first | done | exact rfl
  · rw [if_neg hz]
    by_cases hz : ((xm_35 M).2.1 54 4) < (0 : Int32)
    · rw [if_pos hz]
      first | done | exact (((congrFun (congrFun ro_sI_J _) _)).trans (xwJ_35))
    · rw [if_neg hz]
      by_cases hz : (40 : Int32) ≤ ((xm_35 M).2.1 54 4)
      · rw [if_pos hz]
        first | done | exact (((congrFun (congrFun ro_sI_J _) _)).trans (xwJ_35))
      · rw [if_neg hz]
        first | done | exact ((((((((congrFun (congrFun ro_sI_J _) _)).trans (congrFun (congrFun ro_sI_J _) _)).trans (congrFun (congrFun ro_sI_J _) _)).trans (congrFun (congrFun ro_sI_J _) _)).trans (congrFun (congrFun ro_sI_J _) _)).trans (congrFun (congrFun ro_sI_J _) _)).trans (xwJ_35))
/-- RefusedOnce.image()I -/
noncomputable def xf_150 (M : ro_Mm) : Int32 := (xf_149 (xm_151 M) (0 : Int32))
noncomputable def xm_150 (M : ro_Mm) : ro_Mm := (xm_151 M)
def xp_150 (M : ro_Mm) : Prop := (xp_151 M ∧ True)
theorem xs_150 {X : ro_Sx} {M : ro_Mm} (hL : ro_lay M) (hp : xp_150 M) : ro_cwp X 4 150 [.ref 4] M (fun v M2 => v = some (.int (xf_150 M)) ∧ M2 = xm_150 M) := by
  refine rs_begin (lv0 := [(0, .ref 4)]) (by decide) rfl (by rw [rm_150.1]; exact Nat.le_of_ble_eq_true rfl) rfl ?_
  unfold xp_150 at hp
  refine rs_aload_n ri_150_0 rfl rfl ?_
  refine rs_gf (v := .ref 5) ri_150_1 rfl (by decide) (ro_kf (kd_4 hL)) rfl (rf_4_0 hL) ?_
  obtain ⟨q0, hp⟩ := hp
  refine rs_virt (As := []) (r := []) ri_150_4 rfl (by decide) rm_151.2.2.2 rm_151.2.2.1 rfl rfl rfl (by decide) (ro_kf (kd_5 hL)) (Nat.le_of_ble_eq_true rfl) (by decide) (by decide) (xs_151 (X := X) hL q0) ?_
  rintro _ _ ⟨e1, e2⟩
  rw [e1, e2]
  show ro_w X _ 150 _ 7 [(0, .ref 4)] [] (xm_151 M) (0, 0)
  refine rs_aload_n ri_150_7 rfl rfl ?_
  refine rs_gf (v := .ref 5) ri_150_8 rfl (by decide) (ro_kf (kd_4 (xl_151 hL q0))) rfl (rf_4_0 (xl_151 hL q0)) ?_
  refine rs_iconst (v := (0 : Int32)) ri_150_11 rfl (by decide) ?_
  refine rs_virt (As := [.int (0 : Int32)]) (r := []) ri_150_12 rfl (by decide) rm_149.2.2.2 rm_149.2.2.1 rfl rfl rfl (by decide) (ro_kf (kd_5 (xl_151 hL q0))) (Nat.le_of_ble_eq_true rfl) (by decide) (by decide) (xs_149 (X := X) (xl_151 hL q0)) ?_
  rintro _ _ ⟨e1, e2⟩
  rw [e1, e2]
  show ro_w X _ 150 _ 15 [(0, .ref 4)] [.int (xf_149 (xm_151 M) (0 : Int32))] (xm_151 M) (0, 0)
  refine rs_iret ri_150_15 rm_150.2.1 (by decide) ?_
  exact ⟨by rfl, by rfl⟩
theorem xl_150 {M : ro_Mm} (hL : ro_lay M) (hp : xp_150 M) : ro_lay (xm_150 M) := by
  unfold xp_150 at hp
  unfold xm_150
  obtain ⟨q0, hp⟩ := hp
  exact (xl_151 hL q0)
theorem xwI_150 {M : ro_Mm} {c j : Nat} (n0 : c ≠ 13) (n1 : c ≠ 14) (n2 : c ≠ 15) (n3 : c ≠ 5) : (xm_150 M).2.1 c j = M.2.1 c j := by
  unfold xm_150
  first | done | exact (xwI_151 n0 n1 n2 n3)
theorem xwJ_150 {M : ro_Mm} {c j : Nat} : (xm_150 M).2.2.1 c j = M.2.2.1 c j := by
  unfold xm_150
  first | done | exact (xwJ_151)
/-- RefusedOnce.back()I -/
noncomputable def xf_152 (M : ro_Mm) : Int32 := (if (xf_153 M) then (xf_149 (xm_153 M) (0 : Int32)) else (-5 : Int32))
noncomputable def xm_152 (M : ro_Mm) : ro_Mm := (xm_153 M)
def xp_152 (M : ro_Mm) : Prop := (xp_153 M ∧ True)
theorem xs_152 {X : ro_Sx} {M : ro_Mm} (hL : ro_lay M) (hp : xp_152 M) : ro_cwp X 4 152 [.ref 4] M (fun v M2 => v = some (.int (xf_152 M)) ∧ M2 = xm_152 M) := by
  refine rs_begin (lv0 := [(0, .ref 4)]) (by decide) rfl (by rw [rm_152.1]; exact Nat.le_of_ble_eq_true rfl) rfl ?_
  unfold xp_152 at hp
  refine rs_aload_n ri_152_0 rfl rfl ?_
  refine rs_gf (v := .ref 5) ri_152_1 rfl (by decide) (ro_kf (kd_4 hL)) rfl (rf_4_0 hL) ?_
  obtain ⟨q0, hp⟩ := hp
  refine rs_virt (As := []) (r := []) ri_152_4 rfl (by decide) rm_153.2.2.2 rm_153.2.2.1 rfl rfl rfl (by decide) (ro_kf (kd_5 hL)) (Nat.le_of_ble_eq_true rfl) (by decide) (by decide) (xs_153 (X := X) hL q0) ?_
  rintro _ _ ⟨e1, e2⟩
  rw [e1, e2]
  show ro_w X _ 152 _ 7 [(0, .ref 4)] [.int (ro_b (xf_153 M))] (xm_153 M) (0, 0)
  refine rs_ifeq_c (t := 21) ri_152_7 rfl rfl (fun h2 => ?_) (fun h2 => ?_)
  · skip
    refine rs_bipush (v := (-5 : Int32)) ri_152_21 rfl (by decide) ?_
    refine rs_iret ri_152_23 rm_152.2.1 (by decide) ?_
    exact ⟨by unfold xf_152; first | (simp only [if_neg h2]; done) | rfl, by unfold xm_152; first | (simp only [if_neg h2]; done) | rfl⟩
  · skip
    refine rs_aload_n ri_152_10 rfl rfl ?_
    refine rs_gf (v := .ref 5) ri_152_11 rfl (by decide) (ro_kf (kd_4 (xl_153 hL q0))) rfl (rf_4_0 (xl_153 hL q0)) ?_
    refine rs_iconst (v := (0 : Int32)) ri_152_14 rfl (by decide) ?_
    refine rs_virt (As := [.int (0 : Int32)]) (r := []) ri_152_15 rfl (by decide) rm_149.2.2.2 rm_149.2.2.1 rfl rfl rfl (by decide) (ro_kf (kd_5 (xl_153 hL q0))) (Nat.le_of_ble_eq_true rfl) (by decide) (by decide) (xs_149 (X := X) (xl_153 hL q0)) ?_
    rintro _ _ ⟨e1, e2⟩
    rw [e1, e2]
    show ro_w X _ 152 _ 18 [(0, .ref 4)] [.int (xf_149 (xm_153 M) (0 : Int32))] (xm_153 M) (0, 0)
    refine rs_goto (t := 23) ri_152_18 rfl ?_
    refine rs_iret ri_152_23 rm_152.2.1 (by decide) ?_
    exact ⟨by unfold xf_152; first | (simp only [if_pos h2]; done) | rfl, by unfold xm_152; first | (simp only [if_pos h2]; done) | rfl⟩
theorem xl_152 {M : ro_Mm} (hL : ro_lay M) (hp : xp_152 M) : ro_lay (xm_152 M) := by
  unfold xp_152 at hp
  unfold xm_152
  obtain ⟨q0, hp⟩ := hp
  by_cases hz : (xf_153 M)
  · skip
    exact (xl_153 hL q0)
  · skip
    exact (xl_153 hL q0)
theorem xwI_152 {M : ro_Mm} {c j : Nat} (n0 : c ≠ 7) (n1 : c ≠ 8) (n2 : c ≠ 11) (n3 : c ≠ 5) : (xm_152 M).2.1 c j = M.2.1 c j := by
  unfold xm_152
  first | done | exact (xwI_153 n0 n1 n2 n3)
theorem xwJ_152 {M : ro_Mm} {c j : Nat} : (xm_152 M).2.2.1 c j = M.2.2.1 c j := by
  unfold xm_152
  first | done | exact (xwJ_153)
/-- RefusedOnce.shift(IIIII)I -/
def xf_184 (M : ro_Mm) (v1 : Int32) (v2 : Int32) (v3 : Int32) (v4 : Int32) (v5 : Int32) : Int32 := (if ro_bs v1 then (if ro_bs v3 then (if (xf_21 M (ro_sc v1)) then (-11 : Int32) else (if (xf_21 M (ro_sc v3)) then (-11 : Int32) else (if (xf_185 M (ro_sc v1) (ro_sc v3)) then (if (xf_186 M (ro_sc v1) v2 (ro_sc v3) v4 v5) then v5 else (-13 : Int32)) else (-12 : Int32)))) else (-1 : Int32)) else (-1 : Int32))
def xm_184 (M : ro_Mm) (v1 : Int32) (v2 : Int32) (v3 : Int32) (v4 : Int32) (v5 : Int32) : ro_Mm := (if ro_bs v1 then (if ro_bs v3 then (if (xf_21 M (ro_sc v1)) then M else (if (xf_21 M (ro_sc v3)) then M else (if (xf_185 M (ro_sc v1) (ro_sc v3)) then (xm_186 M (ro_sc v1) v2 (ro_sc v3) v4 v5) else M))) else M) else M)
def xp_184 (M : ro_Mm) (v1 : Int32) (v2 : Int32) (v3 : Int32) (v4 : Int32) (v5 : Int32) : Prop := ((ro_bs v1 → ((ro_bs v3 → (((xf_21 M (ro_sc v1)) → True) ∧ (¬ ((xf_21 M (ro_sc v1))) → (((xf_21 M (ro_sc v3)) → True) ∧ (¬ ((xf_21 M (ro_sc v3))) → (((xf_185 M (ro_sc v1) (ro_sc v3)) → (xp_186 M (ro_sc v1) v2 (ro_sc v3) v4 v5 ∧ True)) ∧ (¬ ((xf_185 M (ro_sc v1) (ro_sc v3))) → True))))))) ∧ (¬ (ro_bs v3) → True))) ∧ (¬ (ro_bs v1) → True))
theorem xl_184 {M : ro_Mm} {v1 : Int32} {v2 : Int32} {v3 : Int32} {v4 : Int32} {v5 : Int32} (hL : ro_lay M) (hp : xp_184 M v1 v2 v3 v4 v5) : ro_lay (xm_184 M v1 v2 v3 v4 v5) := by
  unfold xp_184 at hp
  unfold xm_184
  by_cases hz : ro_bs v1
  · have hp := hp.1 hz
    rw [if_pos hz]
    by_cases hz : ro_bs v3
    · have hp := hp.1 hz
      rw [if_pos hz]
      by_cases hz : (xf_21 M (ro_sc v1))
      · have hp := hp.1 hz
        rw [if_pos hz]
        exact hL
      · have hp := hp.2 hz
        rw [if_neg hz]
        by_cases hz : (xf_21 M (ro_sc v3))
        · have hp := hp.1 hz
          rw [if_pos hz]
          exact hL
        · have hp := hp.2 hz
          rw [if_neg hz]
          by_cases hz : (xf_185 M (ro_sc v1) (ro_sc v3))
          · have hp := hp.1 hz
            rw [if_pos hz]
            obtain ⟨q5, hp⟩ := hp
            by_cases hz : (xf_186 M (ro_sc v1) v2 (ro_sc v3) v4 v5)
            · skip
              exact (xl_186 hL (ro_sc_is v1) (ro_sc_is v3) q5)
            · skip
              exact (xl_186 hL (ro_sc_is v1) (ro_sc_is v3) q5)
          · have hp := hp.2 hz
            rw [if_neg hz]
            exact hL
    · have hp := hp.2 hz
      rw [if_neg hz]
      exact hL
  · have hp := hp.2 hz
    rw [if_neg hz]
    by_cases hz : ro_bs v3
    · skip
      exact hL
    · skip
      exact hL
theorem xwI_184 {M : ro_Mm} {v1 : Int32} {v2 : Int32} {v3 : Int32} {v4 : Int32} {v5 : Int32} {c j : Nat} : (xm_184 M v1 v2 v3 v4 v5).2.1 c j = M.2.1 c j := by
  unfold xm_184
  by_cases hz : ro_bs v1
  · rw [if_pos hz]
    by_cases hz : ro_bs v3
    · rw [if_pos hz]
      by_cases hz : (xf_21 M (ro_sc v1))
      · rw [if_pos hz]
        first | done | exact rfl
      · rw [if_neg hz]
        by_cases hz : (xf_21 M (ro_sc v3))
        · rw [if_pos hz]
          first | done | exact rfl
        · rw [if_neg hz]
          by_cases hz : (xf_185 M (ro_sc v1) (ro_sc v3))
          · rw [if_pos hz]
            first | done | exact (xwI_186)
          · rw [if_neg hz]
            first | done | exact rfl
    · rw [if_neg hz]
      first | done | exact rfl
  · rw [if_neg hz]
    first | done | exact rfl
theorem xwJ_184 {M : ro_Mm} {v1 : Int32} {v2 : Int32} {v3 : Int32} {v4 : Int32} {v5 : Int32} {c j : Nat} (n0 : c ≠ ((ro_sc v3) + 1)) : (xm_184 M v1 v2 v3 v4 v5).2.2.1 c j = M.2.2.1 c j := by
  unfold xm_184
  by_cases hz : ro_bs v1
  · rw [if_pos hz]
    by_cases hz : ro_bs v3
    · rw [if_pos hz]
      by_cases hz : (xf_21 M (ro_sc v1))
      · rw [if_pos hz]
        first | done | exact rfl
      · rw [if_neg hz]
        by_cases hz : (xf_21 M (ro_sc v3))
        · rw [if_pos hz]
          first | done | exact rfl
        · rw [if_neg hz]
          by_cases hz : (xf_185 M (ro_sc v1) (ro_sc v3))
          · rw [if_pos hz]
            first | done | exact (xwJ_186 n0)
          · rw [if_neg hz]
            first | done | exact rfl
    · rw [if_neg hz]
      first | done | exact rfl
  · rw [if_neg hz]
    first | done | exact rfl
/-- RefusedOnce.mend(III)I -/
def xf_27 (M : ro_Mm) (v1 : Int32) (v2 : Int32) (v3 : Int32) : Int32 := (if (xf_28 M v1 v2) then (if (xf_15 M v2 v3) then (xf_30 M v1 v2) else (-1 : Int32)) else (-1 : Int32))
def xm_27 (M : ro_Mm) (v1 : Int32) (v2 : Int32) (v3 : Int32) : ro_Mm := (if (xf_28 M v1 v2) then (if (xf_15 M v2 v3) then (if (xf_30 M v1 v2) = v3 then M else (xm_34 (xm_33 M v1 v2 v3) v1 v2 (xf_30 M v1 v2) v3)) else M) else M)
theorem xs_27 {X : ro_Sx} {M : ro_Mm} {v1 : Int32} {v2 : Int32} {v3 : Int32} (hL : ro_lay M) : ro_cwp X 3 27 [.ref 4, .int v1, .int v2, .int v3] M (fun v M2 => v = some (.int (xf_27 M v1 v2 v3)) ∧ M2 = xm_27 M v1 v2 v3) := by
  refine rs_begin (lv0 := [(0, .ref 4), (1, .int v1), (2, .int v2), (3, .int v3)]) (by decide) rfl (by rw [rm_27.1]; exact Nat.le_of_ble_eq_true rfl) rfl ?_
  refine rs_aload_n ri_27_0 rfl rfl ?_
  refine rs_gf (v := .ref 5) ri_27_1 rfl (by decide) (ro_kf (kd_4 hL)) rfl (rf_4_0 hL) ?_
  refine rs_iload_n ri_27_4 rfl rfl ?_
  refine rs_iload_n ri_27_5 rfl rfl ?_
  refine rs_virt (As := [.int v1, .int v2]) (r := []) ri_27_6 rfl (by decide) rm_28.2.2.2 rm_28.2.2.1 rfl rfl rfl (by decide) (ro_kf (kd_5 hL)) (Nat.le_of_ble_eq_true rfl) (by decide) (by decide) (xs_28 (X := X) hL) ?_
  rintro _ _ ⟨e1, e2⟩
  rw [e1, e2]
  show ro_w X _ 27 _ 9 [(0, .ref 4), (1, .int v1), (2, .int v2), (3, .int v3)] [.int (ro_b (xf_28 M v1 v2))] M (0, 0)
  refine rs_ifeq_c (t := 20) ri_27_9 rfl rfl (fun h1 => ?_) (fun h1 => ?_)
  · skip
    refine rs_iconst (v := (-1 : Int32)) ri_27_20 rfl (by decide) ?_
    refine rs_iret ri_27_21 rm_27.2.1 (by decide) ?_
    exact ⟨by unfold xf_27; first | (simp only [if_neg h1]; done) | rfl, by unfold xm_27; first | (simp only [if_neg h1]; done) | rfl⟩
  · skip
    refine rs_iload_n ri_27_12 rfl rfl ?_
    refine rs_iload_n ri_27_13 rfl rfl ?_
    refine rs_stat (As := [.int v2, .int v3]) (r := []) ri_27_14 rfl rm_15.2.2.2 rfl rfl rfl (Nat.le_of_ble_eq_true rfl) (by decide) (by decide) (xs_15 (X := X) hL) ?_
    rintro _ _ ⟨e1, e2⟩
    rw [e1, e2]
    show ro_w X _ 27 _ 17 [(0, .ref 4), (1, .int v1), (2, .int v2), (3, .int v3)] [.int (ro_b (xf_15 M v2 v3))] M (0, 0)
    refine rs_ifne_c (t := 22) ri_27_17 rfl rfl (fun h2 => ?_) (fun h2 => ?_)
    · skip
      refine rs_aload_n ri_27_22 rfl rfl ?_
      refine rs_gf (v := .ref 5) ri_27_23 rfl (by decide) (ro_kf (kd_4 hL)) rfl (rf_4_0 hL) ?_
      refine rs_iload_n ri_27_26 rfl rfl ?_
      refine rs_iload_n ri_27_27 rfl rfl ?_
      refine rs_virt (As := [.int v1, .int v2]) (r := []) ri_27_28 rfl (by decide) rm_30.2.2.2 rm_30.2.2.1 rfl rfl rfl (by decide) (ro_kf (kd_5 hL)) (Nat.le_of_ble_eq_true rfl) (by decide) (by decide) (xs_30 (X := X) hL) ?_
      rintro _ _ ⟨e1, e2⟩
      rw [e1, e2]
      show ro_w X _ 27 _ 31 [(0, .ref 4), (1, .int v1), (2, .int v2), (3, .int v3)] [.int (xf_30 M v1 v2)] M (0, 0)
      refine rs_istore (lv2 := [(4, .int (xf_30 M v1 v2)), (0, .ref 4), (1, .int v1), (2, .int v2), (3, .int v3)]) ri_27_31 rfl rm_27.1 (by decide) rfl ?_
      refine rs_iload ri_27_33 rfl rfl ?_
      refine rs_iload_n ri_27_35 rfl rfl ?_
      refine rs_icmp_eq (t := 61) ri_27_36 rfl rfl (fun h3 => ?_) (fun h3 => ?_)
      · skip
        refine rs_iload ri_27_61 rfl rfl ?_
        refine rs_iret ri_27_63 rm_27.2.1 (by decide) ?_
        exact ⟨by unfold xf_27; first | (simp only [if_pos h1, if_pos h2, if_pos h3]; done) | rfl, by unfold xm_27; first | (simp only [if_pos h1, if_pos h2, if_pos h3]; done) | rfl⟩
      · skip
        refine rs_aload_n ri_27_39 rfl rfl ?_
        refine rs_gf (v := .ref 5) ri_27_40 rfl (by decide) (ro_kf (kd_4 hL)) rfl (rf_4_0 hL) ?_
        refine rs_iload_n ri_27_43 rfl rfl ?_
        refine rs_iload_n ri_27_44 rfl rfl ?_
        refine rs_iload_n ri_27_45 rfl rfl ?_
        refine rs_virt (As := [.int v1, .int v2, .int v3]) (r := []) ri_27_46 rfl (by decide) rm_33.2.2.2 rm_33.2.2.1 rfl rfl rfl (by decide) (ro_kf (kd_5 hL)) (Nat.le_of_ble_eq_true rfl) (by decide) (by decide) (xs_33 (X := X) hL) ?_
        rintro _ _ ⟨e1, e2⟩
        rw [e1, e2]
        show ro_w X _ 27 _ 49 [(4, .int (xf_30 M v1 v2)), (0, .ref 4), (1, .int v1), (2, .int v2), (3, .int v3)] [] (xm_33 M v1 v2 v3) (0, 0)
        refine rs_aload_n ri_27_49 rfl rfl ?_
        refine rs_gf (v := .ref 54) ri_27_50 rfl (by decide) (ro_kf (kd_4 (xl_33 hL))) rfl (rf_4_6 (xl_33 hL)) ?_
        refine rs_iload_n ri_27_53 rfl rfl ?_
        refine rs_iload_n ri_27_54 rfl rfl ?_
        refine rs_iload ri_27_55 rfl rfl ?_
        refine rs_iload_n ri_27_57 rfl rfl ?_
        refine rs_virt (As := [.int v1, .int v2, .int (xf_30 M v1 v2), .int v3]) (r := []) ri_27_58 rfl (by decide) rm_34.2.2.2 rm_34.2.2.1 rfl rfl rfl (by decide) (ro_kf (kd_54 (xl_33 hL))) (Nat.le_of_ble_eq_true rfl) (by decide) (by decide) (xs_34 (X := X) (xl_33 hL)) ?_
        rintro _ _ ⟨e1, e2⟩
        rw [e1, e2]
        show ro_w X _ 27 _ 61 [(4, .int (xf_30 M v1 v2)), (0, .ref 4), (1, .int v1), (2, .int v2), (3, .int v3)] [] (xm_34 (xm_33 M v1 v2 v3) v1 v2 (xf_30 M v1 v2) v3) (0, 0)
        refine rs_iload ri_27_61 rfl rfl ?_
        refine rs_iret ri_27_63 rm_27.2.1 (by decide) ?_
        exact ⟨by unfold xf_27; first | (simp only [if_pos h1, if_pos h2, if_neg h3]; done) | rfl, by unfold xm_27; first | (simp only [if_pos h1, if_pos h2, if_neg h3]; done) | rfl⟩
    · skip
      refine rs_iconst (v := (-1 : Int32)) ri_27_20 rfl (by decide) ?_
      refine rs_iret ri_27_21 rm_27.2.1 (by decide) ?_
      exact ⟨by unfold xf_27; first | (simp only [if_pos h1, if_neg h2]; done) | rfl, by unfold xm_27; first | (simp only [if_pos h1, if_neg h2]; done) | rfl⟩
theorem xl_27 {M : ro_Mm} {v1 : Int32} {v2 : Int32} {v3 : Int32} (hL : ro_lay M) : ro_lay (xm_27 M v1 v2 v3) := by
  unfold xm_27
  by_cases hz : (xf_28 M v1 v2)
  · skip
    rw [if_pos hz]
    by_cases hz : (xf_15 M v2 v3)
    · skip
      rw [if_pos hz]
      by_cases hz : (xf_30 M v1 v2) = v3
      · skip
        rw [if_pos hz]
        exact hL
      · skip
        rw [if_neg hz]
        exact (xl_34 (xl_33 hL))
    · skip
      rw [if_neg hz]
      exact hL
  · skip
    rw [if_neg hz]
    exact hL
theorem xwI_27 {M : ro_Mm} {v1 : Int32} {v2 : Int32} {v3 : Int32} {c j : Nat} (n0 : c ≠ 7) (n1 : c ≠ 8) (n2 : c ≠ 9) (n3 : c ≠ 10) (n4 : c ≠ 5) (n5 : c ≠ 54) (n6 : c ≠ 55) (n7 : c ≠ 56) (n8 : c ≠ 57) (n9 : c ≠ 58) : (xm_27 M v1 v2 v3).2.1 c j = M.2.1 c j := by
  unfold xm_27
  by_cases hz : (xf_28 M v1 v2)
  · rw [if_pos hz]
    by_cases hz : (xf_15 M v2 v3)
    · rw [if_pos hz]
      by_cases hz : (xf_30 M v1 v2) = v3
      · rw [if_pos hz]
        first | done | exact rfl
      · rw [if_neg hz]
        first | done | exact (((xwI_34 n5 n6 n7 n8 n9)).trans (xwI_33 n0 n1 n2 n3 n4))
    · rw [if_neg hz]
      first | done | exact rfl
  · rw [if_neg hz]
    first | done | exact rfl
theorem xwJ_27 {M : ro_Mm} {v1 : Int32} {v2 : Int32} {v3 : Int32} {c j : Nat} : (xm_27 M v1 v2 v3).2.2.1 c j = M.2.2.1 c j := by
  unfold xm_27
  by_cases hz : (xf_28 M v1 v2)
  · rw [if_pos hz]
    by_cases hz : (xf_15 M v2 v3)
    · rw [if_pos hz]
      by_cases hz : (xf_30 M v1 v2) = v3
      · rw [if_pos hz]
        first | done | exact rfl
      · rw [if_neg hz]
        first | done | exact (((xwJ_34)).trans (xwJ_33))
    · rw [if_neg hz]
      first | done | exact rfl
  · rw [if_neg hz]
    first | done | exact rfl

