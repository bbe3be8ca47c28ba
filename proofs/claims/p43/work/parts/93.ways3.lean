/-! the ways behind an evening: rows of grids, the two levels (by program, wip/whole/walk4.py, mk91.py) -/
/-- RefusedOnce$Ways.goOn(II)V -/
noncomputable def xm_134 (M : ro_Mm) (v1 : Int32) (v2 : Int32) : ro_Mm := (if v1 < (0 : Int32) then M else (if (8192 : Int32) ≤ v1 then M else (if v2 < (0 : Int32) then M else (if v2 < (20 : Int32) then (if (xf_71 M v2) then (xm_131 (xm_131 M (xf_135 M (v2 + (1 : Int32)) (xf_135 M (v2 + (1 : Int32)) (xf_135 M (v2 + (1 : Int32)) (M.2.2.1 ((lft M) + 1) (v1.toNatClampNeg)) (xf_69 M v2) (-1 : Int32)) (xf_70 M v2) (1 : Int32)) ((6 : Int32) + (xf_69 M v2)) (0 : Int32)) (M.2.1 ((lft M) + 2) (v1.toNatClampNeg)) (M.2.1 ((lft M) + 3) (v1.toNatClampNeg)) (M.2.1 ((lft M) + 4) (v1.toNatClampNeg))) (xf_135 (xm_131 M (xf_135 M (v2 + (1 : Int32)) (xf_135 M (v2 + (1 : Int32)) (xf_135 M (v2 + (1 : Int32)) (M.2.2.1 ((lft M) + 1) (v1.toNatClampNeg)) (xf_69 M v2) (-1 : Int32)) (xf_70 M v2) (1 : Int32)) ((6 : Int32) + (xf_69 M v2)) (0 : Int32)) (M.2.1 ((lft M) + 2) (v1.toNatClampNeg)) (M.2.1 ((lft M) + 3) (v1.toNatClampNeg)) (M.2.1 ((lft M) + 4) (v1.toNatClampNeg))) (v2 + (1 : Int32)) (xf_135 (xm_131 M (xf_135 M (v2 + (1 : Int32)) (xf_135 M (v2 + (1 : Int32)) (xf_135 M (v2 + (1 : Int32)) (M.2.2.1 ((lft M) + 1) (v1.toNatClampNeg)) (xf_69 M v2) (-1 : Int32)) (xf_70 M v2) (1 : Int32)) ((6 : Int32) + (xf_69 M v2)) (0 : Int32)) (M.2.1 ((lft M) + 2) (v1.toNatClampNeg)) (M.2.1 ((lft M) + 3) (v1.toNatClampNeg)) (M.2.1 ((lft M) + 4) (v1.toNatClampNeg))) (v2 + (1 : Int32)) (xf_135 M (v2 + (1 : Int32)) (M.2.2.1 ((lft M) + 1) (v1.toNatClampNeg)) (xf_69 M v2) (-1 : Int32)) (xf_70 M v2) (0 : Int32)) ((6 : Int32) + (xf_69 M v2)) (1 : Int32)) ((xm_131 M (xf_135 M (v2 + (1 : Int32)) (xf_135 M (v2 + (1 : Int32)) (xf_135 M (v2 + (1 : Int32)) (M.2.2.1 ((lft M) + 1) (v1.toNatClampNeg)) (xf_69 M v2) (-1 : Int32)) (xf_70 M v2) (1 : Int32)) ((6 : Int32) + (xf_69 M v2)) (0 : Int32)) (M.2.1 ((lft M) + 2) (v1.toNatClampNeg)) (M.2.1 ((lft M) + 3) (v1.toNatClampNeg)) (M.2.1 ((lft M) + 4) (v1.toNatClampNeg))).2.1 ((lft (xm_131 M (xf_135 M (v2 + (1 : Int32)) (xf_135 M (v2 + (1 : Int32)) (xf_135 M (v2 + (1 : Int32)) (M.2.2.1 ((lft M) + 1) (v1.toNatClampNeg)) (xf_69 M v2) (-1 : Int32)) (xf_70 M v2) (1 : Int32)) ((6 : Int32) + (xf_69 M v2)) (0 : Int32)) (M.2.1 ((lft M) + 2) (v1.toNatClampNeg)) (M.2.1 ((lft M) + 3) (v1.toNatClampNeg)) (M.2.1 ((lft M) + 4) (v1.toNatClampNeg)))) + 2) (v1.toNatClampNeg)) ((((xm_131 M (xf_135 M (v2 + (1 : Int32)) (xf_135 M (v2 + (1 : Int32)) (xf_135 M (v2 + (1 : Int32)) (M.2.2.1 ((lft M) + 1) (v1.toNatClampNeg)) (xf_69 M v2) (-1 : Int32)) (xf_70 M v2) (1 : Int32)) ((6 : Int32) + (xf_69 M v2)) (0 : Int32)) (M.2.1 ((lft M) + 2) (v1.toNatClampNeg)) (M.2.1 ((lft M) + 3) (v1.toNatClampNeg)) (M.2.1 ((lft M) + 4) (v1.toNatClampNeg))).2.1 ((lft (xm_131 M (xf_135 M (v2 + (1 : Int32)) (xf_135 M (v2 + (1 : Int32)) (xf_135 M (v2 + (1 : Int32)) (M.2.2.1 ((lft M) + 1) (v1.toNatClampNeg)) (xf_69 M v2) (-1 : Int32)) (xf_70 M v2) (1 : Int32)) ((6 : Int32) + (xf_69 M v2)) (0 : Int32)) (M.2.1 ((lft M) + 2) (v1.toNatClampNeg)) (M.2.1 ((lft M) + 3) (v1.toNatClampNeg)) (M.2.1 ((lft M) + 4) (v1.toNatClampNeg)))) + 3) (v1.toNatClampNeg)) + (1048576 : Int32)) + ((1 : Int32) <<< (v2 &&& 31))) (((xm_131 M (xf_135 M (v2 + (1 : Int32)) (xf_135 M (v2 + (1 : Int32)) (xf_135 M (v2 + (1 : Int32)) (M.2.2.1 ((lft M) + 1) (v1.toNatClampNeg)) (xf_69 M v2) (-1 : Int32)) (xf_70 M v2) (1 : Int32)) ((6 : Int32) + (xf_69 M v2)) (0 : Int32)) (M.2.1 ((lft M) + 2) (v1.toNatClampNeg)) (M.2.1 ((lft M) + 3) (v1.toNatClampNeg)) (M.2.1 ((lft M) + 4) (v1.toNatClampNeg))).2.1 ((lft (xm_131 M (xf_135 M (v2 + (1 : Int32)) (xf_135 M (v2 + (1 : Int32)) (xf_135 M (v2 + (1 : Int32)) (M.2.2.1 ((lft M) + 1) (v1.toNatClampNeg)) (xf_69 M v2) (-1 : Int32)) (xf_70 M v2) (1 : Int32)) ((6 : Int32) + (xf_69 M v2)) (0 : Int32)) (M.2.1 ((lft M) + 2) (v1.toNatClampNeg)) (M.2.1 ((lft M) + 3) (v1.toNatClampNeg)) (M.2.1 ((lft M) + 4) (v1.toNatClampNeg)))) + 4) (v1.toNatClampNeg)) ||| ((1 : Int32) <<< (v2 &&& 31)))) else (xm_131 M (xf_135 M (v2 + (1 : Int32)) (xf_135 M (v2 + (1 : Int32)) (M.2.2.1 ((lft M) + 1) (v1.toNatClampNeg)) ((6 : Int32) + (xf_69 M v2)) (-1 : Int32)) ((6 : Int32) + (xf_70 M v2)) (1 : Int32)) (M.2.1 ((lft M) + 2) (v1.toNatClampNeg)) (M.2.1 ((lft M) + 3) (v1.toNatClampNeg)) (M.2.1 ((lft M) + 4) (v1.toNatClampNeg)))) else M))))
def xp_134 (M : ro_Mm) (v1 : Int32) (v2 : Int32) : Prop := ((v1 < (0 : Int32) → True) ∧ (¬ (v1 < (0 : Int32)) → (((8192 : Int32) ≤ v1 → True) ∧ (¬ ((8192 : Int32) ≤ v1) → ((v2 < (0 : Int32) → True) ∧ (¬ (v2 < (0 : Int32)) → ((v2 < (20 : Int32) → (((xf_71 M v2) → (xp_131 M (xf_135 M (v2 + (1 : Int32)) (xf_135 M (v2 + (1 : Int32)) (xf_135 M (v2 + (1 : Int32)) (M.2.2.1 ((lft M) + 1) (v1.toNatClampNeg)) (xf_69 M v2) (-1 : Int32)) (xf_70 M v2) (1 : Int32)) ((6 : Int32) + (xf_69 M v2)) (0 : Int32)) (M.2.1 ((lft M) + 2) (v1.toNatClampNeg)) (M.2.1 ((lft M) + 3) (v1.toNatClampNeg)) (M.2.1 ((lft M) + 4) (v1.toNatClampNeg)) ∧ (xp_131 (xm_131 M (xf_135 M (v2 + (1 : Int32)) (xf_135 M (v2 + (1 : Int32)) (xf_135 M (v2 + (1 : Int32)) (M.2.2.1 ((lft M) + 1) (v1.toNatClampNeg)) (xf_69 M v2) (-1 : Int32)) (xf_70 M v2) (1 : Int32)) ((6 : Int32) + (xf_69 M v2)) (0 : Int32)) (M.2.1 ((lft M) + 2) (v1.toNatClampNeg)) (M.2.1 ((lft M) + 3) (v1.toNatClampNeg)) (M.2.1 ((lft M) + 4) (v1.toNatClampNeg))) (xf_135 (xm_131 M (xf_135 M (v2 + (1 : Int32)) (xf_135 M (v2 + (1 : Int32)) (xf_135 M (v2 + (1 : Int32)) (M.2.2.1 ((lft M) + 1) (v1.toNatClampNeg)) (xf_69 M v2) (-1 : Int32)) (xf_70 M v2) (1 : Int32)) ((6 : Int32) + (xf_69 M v2)) (0 : Int32)) (M.2.1 ((lft M) + 2) (v1.toNatClampNeg)) (M.2.1 ((lft M) + 3) (v1.toNatClampNeg)) (M.2.1 ((lft M) + 4) (v1.toNatClampNeg))) (v2 + (1 : Int32)) (xf_135 (xm_131 M (xf_135 M (v2 + (1 : Int32)) (xf_135 M (v2 + (1 : Int32)) (xf_135 M (v2 + (1 : Int32)) (M.2.2.1 ((lft M) + 1) (v1.toNatClampNeg)) (xf_69 M v2) (-1 : Int32)) (xf_70 M v2) (1 : Int32)) ((6 : Int32) + (xf_69 M v2)) (0 : Int32)) (M.2.1 ((lft M) + 2) (v1.toNatClampNeg)) (M.2.1 ((lft M) + 3) (v1.toNatClampNeg)) (M.2.1 ((lft M) + 4) (v1.toNatClampNeg))) (v2 + (1 : Int32)) (xf_135 M (v2 + (1 : Int32)) (M.2.2.1 ((lft M) + 1) (v1.toNatClampNeg)) (xf_69 M v2) (-1 : Int32)) (xf_70 M v2) (0 : Int32)) ((6 : Int32) + (xf_69 M v2)) (1 : Int32)) ((xm_131 M (xf_135 M (v2 + (1 : Int32)) (xf_135 M (v2 + (1 : Int32)) (xf_135 M (v2 + (1 : Int32)) (M.2.2.1 ((lft M) + 1) (v1.toNatClampNeg)) (xf_69 M v2) (-1 : Int32)) (xf_70 M v2) (1 : Int32)) ((6 : Int32) + (xf_69 M v2)) (0 : Int32)) (M.2.1 ((lft M) + 2) (v1.toNatClampNeg)) (M.2.1 ((lft M) + 3) (v1.toNatClampNeg)) (M.2.1 ((lft M) + 4) (v1.toNatClampNeg))).2.1 ((lft (xm_131 M (xf_135 M (v2 + (1 : Int32)) (xf_135 M (v2 + (1 : Int32)) (xf_135 M (v2 + (1 : Int32)) (M.2.2.1 ((lft M) + 1) (v1.toNatClampNeg)) (xf_69 M v2) (-1 : Int32)) (xf_70 M v2) (1 : Int32)) ((6 : Int32) + (xf_69 M v2)) (0 : Int32)) (M.2.1 ((lft M) + 2) (v1.toNatClampNeg)) (M.2.1 ((lft M) + 3) (v1.toNatClampNeg)) (M.2.1 ((lft M) + 4) (v1.toNatClampNeg)))) + 2) (v1.toNatClampNeg)) ((((xm_131 M (xf_135 M (v2 + (1 : Int32)) (xf_135 M (v2 + (1 : Int32)) (xf_135 M (v2 + (1 : Int32)) (M.2.2.1 ((lft M) + 1) (v1.toNatClampNeg)) (xf_69 M v2) (-1 : Int32)) (xf_70 M v2) (1 : Int32)) ((6 : Int32) + (xf_69 M v2)) (0 : Int32)) (M.2.1 ((lft M) + 2) (v1.toNatClampNeg)) (M.2.1 ((lft M) + 3) (v1.toNatClampNeg)) (M.2.1 ((lft M) + 4) (v1.toNatClampNeg))).2.1 ((lft (xm_131 M (xf_135 M (v2 + (1 : Int32)) (xf_135 M (v2 + (1 : Int32)) (xf_135 M (v2 + (1 : Int32)) (M.2.2.1 ((lft M) + 1) (v1.toNatClampNeg)) (xf_69 M v2) (-1 : Int32)) (xf_70 M v2) (1 : Int32)) ((6 : Int32) + (xf_69 M v2)) (0 : Int32)) (M.2.1 ((lft M) + 2) (v1.toNatClampNeg)) (M.2.1 ((lft M) + 3) (v1.toNatClampNeg)) (M.2.1 ((lft M) + 4) (v1.toNatClampNeg)))) + 3) (v1.toNatClampNeg)) + (1048576 : Int32)) + ((1 : Int32) <<< (v2 &&& 31))) (((xm_131 M (xf_135 M (v2 + (1 : Int32)) (xf_135 M (v2 + (1 : Int32)) (xf_135 M (v2 + (1 : Int32)) (M.2.2.1 ((lft M) + 1) (v1.toNatClampNeg)) (xf_69 M v2) (-1 : Int32)) (xf_70 M v2) (1 : Int32)) ((6 : Int32) + (xf_69 M v2)) (0 : Int32)) (M.2.1 ((lft M) + 2) (v1.toNatClampNeg)) (M.2.1 ((lft M) + 3) (v1.toNatClampNeg)) (M.2.1 ((lft M) + 4) (v1.toNatClampNeg))).2.1 ((lft (xm_131 M (xf_135 M (v2 + (1 : Int32)) (xf_135 M (v2 + (1 : Int32)) (xf_135 M (v2 + (1 : Int32)) (M.2.2.1 ((lft M) + 1) (v1.toNatClampNeg)) (xf_69 M v2) (-1 : Int32)) (xf_70 M v2) (1 : Int32)) ((6 : Int32) + (xf_69 M v2)) (0 : Int32)) (M.2.1 ((lft M) + 2) (v1.toNatClampNeg)) (M.2.1 ((lft M) + 3) (v1.toNatClampNeg)) (M.2.1 ((lft M) + 4) (v1.toNatClampNeg)))) + 4) (v1.toNatClampNeg)) ||| ((1 : Int32) <<< (v2 &&& 31))) ∧ True))) ∧ (¬ ((xf_71 M v2)) → (xp_131 M (xf_135 M (v2 + (1 : Int32)) (xf_135 M (v2 + (1 : Int32)) (M.2.2.1 ((lft M) + 1) (v1.toNatClampNeg)) ((6 : Int32) + (xf_69 M v2)) (-1 : Int32)) ((6 : Int32) + (xf_70 M v2)) (1 : Int32)) (M.2.1 ((lft M) + 2) (v1.toNatClampNeg)) (M.2.1 ((lft M) + 3) (v1.toNatClampNeg)) (M.2.1 ((lft M) + 4) (v1.toNatClampNeg)) ∧ True)))) ∧ (¬ (v2 < (20 : Int32)) → True))))))))
set_option maxHeartbeats 2000000 in
theorem xs_134 {X : ro_Sx} {M : ro_Mm} {v1 : Int32} {v2 : Int32} (hL : ro_lw M) (hp : xp_134 M v1 v2) : ro_cwp X 3 134 [.ref 62, .int v1, .int v2] M (fun v M2 => v = none ∧ M2 = xm_134 M v1 v2) := by
  refine rs_begin (lv0 := [(0, .ref 62), (1, .int v1), (2, .int v2)]) (by decide) rfl (by rw [rm_134.1]; exact Nat.le_of_ble_eq_true rfl) rfl ?_
  unfold xp_134 at hp
  refine rs_iload_n ri_134_0 rfl rfl ?_
  refine rs_if_lt (t := 21) ri_134_1 rfl rfl (fun h1 => ?_) (fun h1 => ?_)
  · have hp := hp.1 h1
    refine rs_ret ri_134_21 rm_134.2.1 (by decide) ?_
    try subst hMz3
    try subst hMz2
    try subst hMz1
    exact ⟨by rfl, by unfold xm_134; first | (simp only [if_pos h1]; done) | rfl⟩
  · have hp := hp.2 h1
    refine rs_iload_n ri_134_4 rfl rfl ?_
    refine rs_sipush (v := (8192 : Int32)) ri_134_5 rfl (by decide) ?_
    refine rs_icmp_ge (t := 21) ri_134_8 rfl rfl (fun h2 => ?_) (fun h2 => ?_)
    · have hp := hp.1 h2
      refine rs_ret ri_134_21 rm_134.2.1 (by decide) ?_
      try subst hMz3
      try subst hMz2
      try subst hMz1
      exact ⟨by rfl, by unfold xm_134; first | (simp only [if_neg h1, if_pos h2]; done) | rfl⟩
    · have hp := hp.2 h2
      refine rs_iload_n ri_134_11 rfl rfl ?_
      refine rs_if_lt (t := 21) ri_134_12 rfl rfl (fun h3 => ?_) (fun h3 => ?_)
      · have hp := hp.1 h3
        refine rs_ret ri_134_21 rm_134.2.1 (by decide) ?_
        try subst hMz3
        try subst hMz2
        try subst hMz1
        exact ⟨by rfl, by unfold xm_134; first | (simp only [if_neg h1, if_neg h2, if_pos h3]; done) | rfl⟩
      · have hp := hp.2 h3
        refine rs_iload_n ri_134_15 rfl rfl ?_
        refine rs_bipush (v := (20 : Int32)) ri_134_16 rfl (by decide) ?_
        refine rs_icmp_lt (t := 22) ri_134_18 rfl rfl (fun h4 => ?_) (fun h4 => ?_)
        · have hp := hp.1 h4
          refine rs_iload_n ri_134_22 rfl rfl ?_
          refine rs_iconst (v := (1 : Int32)) ri_134_23 rfl (by decide) ?_
          refine rs_iadd (r := (v2 + (1 : Int32))) ri_134_24 rfl rfl ?_
          refine rs_istore_n (lv2 := [(3, .int (v2 + (1 : Int32))), (0, .ref 62), (1, .int v1), (2, .int v2)]) ri_134_25 rfl rm_134.1 (by decide) rfl ?_
          refine rs_aload_n ri_134_26 rfl rfl ?_
          refine rs_gf (v := .ref 35) ri_134_27 rfl (by decide) (ro_kf (kd_62 hL.1)) rfl (rf_62_1 hL.1) ?_
          refine rs_iload_n ri_134_30 rfl rfl ?_
          refine rs_virt (As := [.int v2]) (r := []) ri_134_31 rfl (by decide) rm_69.2.2.2 rm_69.2.2.1 rfl rfl rfl (by decide) (ro_kf (kd_35 hL.1)) (Nat.le_of_ble_eq_true rfl) (by decide) (by decide) (xs_69 (X := X) hL.1) ?_
          rintro _ _ ⟨e1, e2⟩
          rw [e1, e2]
          show ro_w X _ 134 _ 34 [(3, .int (v2 + (1 : Int32))), (0, .ref 62), (1, .int v1), (2, .int v2)] [.int (xf_69 M v2)] M (0, 0)
          refine rs_istore (lv2 := [(4, .int (xf_69 M v2)), (3, .int (v2 + (1 : Int32))), (0, .ref 62), (1, .int v1), (2, .int v2)]) ri_134_34 rfl rm_134.1 (by decide) rfl ?_
          refine rs_aload_n ri_134_36 rfl rfl ?_
          refine rs_gf (v := .ref 35) ri_134_37 rfl (by decide) (ro_kf (kd_62 hL.1)) rfl (rf_62_1 hL.1) ?_
          refine rs_iload_n ri_134_40 rfl rfl ?_
          refine rs_virt (As := [.int v2]) (r := []) ri_134_41 rfl (by decide) rm_70.2.2.2 rm_70.2.2.1 rfl rfl rfl (by decide) (ro_kf (kd_35 hL.1)) (Nat.le_of_ble_eq_true rfl) (by decide) (by decide) (xs_70 (X := X) hL.1) ?_
          rintro _ _ ⟨e1, e2⟩
          rw [e1, e2]
          show ro_w X _ 134 _ 44 [(4, .int (xf_69 M v2)), (3, .int (v2 + (1 : Int32))), (0, .ref 62), (1, .int v1), (2, .int v2)] [.int (xf_70 M v2)] M (0, 0)
          refine rs_istore (lv2 := [(5, .int (xf_70 M v2)), (4, .int (xf_69 M v2)), (3, .int (v2 + (1 : Int32))), (0, .ref 62), (1, .int v1), (2, .int v2)]) ri_134_44 rfl rm_134.1 (by decide) rfl ?_
          refine rs_bipush (v := (6 : Int32)) ri_134_46 rfl (by decide) ?_
          refine rs_iload ri_134_48 rfl rfl ?_
          refine rs_iadd (r := ((6 : Int32) + (xf_69 M v2))) ri_134_50 rfl rfl ?_
          refine rs_istore (lv2 := [(6, .int ((6 : Int32) + (xf_69 M v2))), (5, .int (xf_70 M v2)), (4, .int (xf_69 M v2)), (3, .int (v2 + (1 : Int32))), (0, .ref 62), (1, .int v1), (2, .int v2)]) ri_134_51 rfl rm_134.1 (by decide) rfl ?_
          refine rs_bipush (v := (6 : Int32)) ri_134_53 rfl (by decide) ?_
          refine rs_iload ri_134_55 rfl rfl ?_
          refine rs_iadd (r := ((6 : Int32) + (xf_70 M v2))) ri_134_57 rfl rfl ?_
          refine rs_istore (lv2 := [(7, .int ((6 : Int32) + (xf_70 M v2))), (6, .int ((6 : Int32) + (xf_69 M v2))), (5, .int (xf_70 M v2)), (4, .int (xf_69 M v2)), (3, .int (v2 + (1 : Int32))), (0, .ref 62), (1, .int v1), (2, .int v2)]) ri_134_58 rfl rm_134.1 (by decide) rfl ?_
          refine rs_aload_n ri_134_60 rfl rfl ?_
          refine rs_gf (v := .ref (lft M)) ri_134_61 rfl (by decide) (ro_kf (kd_62 hL.1)) rfl (gf_lv8 (lft_r hL)) ?_
          refine rs_gf (v := .ref ((lft M) + 1)) ri_134_64 rfl (ro_il4 (lft_il hL)) (ro_kf (il_kd hL.1 (lft_il hL))) rfl (il_r0 hL.1 (lft_il hL)) ?_
          refine rs_iload_n ri_134_67 rfl rfl ?_
          refine rs_lald (v := (M.2.2.1 ((lft M) + 1) (v1.toNatClampNeg))) ri_134_68 rfl (il4o (lft_il hL)) (il_kd1 hL.1 (lft_il hL)) (vp_in_iff.mpr ⟨(ro_lo1 h1), (ro_hi2 h2 (by decide))⟩) rfl ?_
          refine rs_lstore (lv2 := [(8, .long (M.2.2.1 ((lft M) + 1) (v1.toNatClampNeg))), (7, .int ((6 : Int32) + (xf_70 M v2))), (6, .int ((6 : Int32) + (xf_69 M v2))), (5, .int (xf_70 M v2)), (4, .int (xf_69 M v2)), (3, .int (v2 + (1 : Int32))), (0, .ref 62), (1, .int v1), (2, .int v2)]) ri_134_69 rfl rm_134.1 (by decide) rfl ?_
          refine rs_aload_n ri_134_71 rfl rfl ?_
          refine rs_gf (v := .ref 35) ri_134_72 rfl (by decide) (ro_kf (kd_62 hL.1)) rfl (rf_62_1 hL.1) ?_
          refine rs_iload_n ri_134_75 rfl rfl ?_
          refine rs_virt (As := [.int v2]) (r := []) ri_134_76 rfl (by decide) rm_71.2.2.2 rm_71.2.2.1 rfl rfl rfl (by decide) (ro_kf (kd_35 hL.1)) (Nat.le_of_ble_eq_true rfl) (by decide) (by decide) (xs_71 (X := X) hL.1) ?_
          rintro _ _ ⟨e1, e2⟩
          rw [e1, e2]
          show ro_w X _ 134 _ 79 [(8, .long (M.2.2.1 ((lft M) + 1) (v1.toNatClampNeg))), (7, .int ((6 : Int32) + (xf_70 M v2))), (6, .int ((6 : Int32) + (xf_69 M v2))), (5, .int (xf_70 M v2)), (4, .int (xf_69 M v2)), (3, .int (v2 + (1 : Int32))), (0, .ref 62), (1, .int v1), (2, .int v2)] [.int (ro_b (xf_71 M v2))] M (0, 0)
          refine rs_ifne_c (t := 136) ri_134_79 rfl rfl (fun h5 => ?_) (fun h5 => ?_)
          · have hp := hp.1 h5
            refine rs_aload_n ri_134_136 rfl rfl ?_
            refine rs_iload_n ri_134_137 rfl rfl ?_
            refine rs_lload ri_134_138 rfl rfl ?_
            refine rs_iload ri_134_140 rfl rfl ?_
            refine rs_iconst (v := (-1 : Int32)) ri_134_142 rfl (by decide) ?_
            refine rs_virt (As := [.int (v2 + (1 : Int32)), .long (M.2.2.1 ((lft M) + 1) (v1.toNatClampNeg)), .int (xf_69 M v2), .int (-1 : Int32)]) (r := []) ri_134_143 rfl (by decide) rm_135.2.2.2 rm_135.2.2.1 rfl rfl rfl (by decide) (ro_kf (kd_62 hL.1)) (Nat.le_of_ble_eq_true rfl) (by decide) (by decide) (xs_135 (X := X) hL) ?_
            rintro _ _ ⟨e1, e2⟩
            rw [e1, e2]
            show ro_w X _ 134 _ 146 [(8, .long (M.2.2.1 ((lft M) + 1) (v1.toNatClampNeg))), (7, .int ((6 : Int32) + (xf_70 M v2))), (6, .int ((6 : Int32) + (xf_69 M v2))), (5, .int (xf_70 M v2)), (4, .int (xf_69 M v2)), (3, .int (v2 + (1 : Int32))), (0, .ref 62), (1, .int v1), (2, .int v2)] [.long (xf_135 M (v2 + (1 : Int32)) (M.2.2.1 ((lft M) + 1) (v1.toNatClampNeg)) (xf_69 M v2) (-1 : Int32))] M (0, 0)
            refine rs_lstore (lv2 := [(8, .long (xf_135 M (v2 + (1 : Int32)) (M.2.2.1 ((lft M) + 1) (v1.toNatClampNeg)) (xf_69 M v2) (-1 : Int32))), (7, .int ((6 : Int32) + (xf_70 M v2))), (6, .int ((6 : Int32) + (xf_69 M v2))), (5, .int (xf_70 M v2)), (4, .int (xf_69 M v2)), (3, .int (v2 + (1 : Int32))), (0, .ref 62), (1, .int v1), (2, .int v2)]) ri_134_146 rfl rm_134.1 (by decide) rfl ?_
            refine rs_aload_n ri_134_148 rfl rfl ?_
            refine rs_iload_n ri_134_149 rfl rfl ?_
            refine rs_aload_n ri_134_150 rfl rfl ?_
            refine rs_iload_n ri_134_151 rfl rfl ?_
            refine rs_lload ri_134_152 rfl rfl ?_
            refine rs_iload ri_134_154 rfl rfl ?_
            refine rs_iconst (v := (1 : Int32)) ri_134_156 rfl (by decide) ?_
            refine rs_virt (As := [.int (v2 + (1 : Int32)), .long (xf_135 M (v2 + (1 : Int32)) (M.2.2.1 ((lft M) + 1) (v1.toNatClampNeg)) (xf_69 M v2) (-1 : Int32)), .int (xf_70 M v2), .int (1 : Int32)]) (r := [.int (v2 + (1 : Int32)), .ref 62]) ri_134_157 rfl (by decide) rm_135.2.2.2 rm_135.2.2.1 rfl rfl rfl (by decide) (ro_kf (kd_62 hL.1)) (Nat.le_of_ble_eq_true rfl) (by decide) (by decide) (xs_135 (X := X) hL) ?_
            rintro _ _ ⟨e1, e2⟩
            rw [e1, e2]
            show ro_w X _ 134 _ 160 [(8, .long (xf_135 M (v2 + (1 : Int32)) (M.2.2.1 ((lft M) + 1) (v1.toNatClampNeg)) (xf_69 M v2) (-1 : Int32))), (7, .int ((6 : Int32) + (xf_70 M v2))), (6, .int ((6 : Int32) + (xf_69 M v2))), (5, .int (xf_70 M v2)), (4, .int (xf_69 M v2)), (3, .int (v2 + (1 : Int32))), (0, .ref 62), (1, .int v1), (2, .int v2)] [.long (xf_135 M (v2 + (1 : Int32)) (xf_135 M (v2 + (1 : Int32)) (M.2.2.1 ((lft M) + 1) (v1.toNatClampNeg)) (xf_69 M v2) (-1 : Int32)) (xf_70 M v2) (1 : Int32)), .int (v2 + (1 : Int32)), .ref 62] M (0, 0)
            refine rs_iload ri_134_160 rfl rfl ?_
            refine rs_iconst (v := (0 : Int32)) ri_134_162 rfl (by decide) ?_
            refine rs_virt (As := [.int (v2 + (1 : Int32)), .long (xf_135 M (v2 + (1 : Int32)) (xf_135 M (v2 + (1 : Int32)) (M.2.2.1 ((lft M) + 1) (v1.toNatClampNeg)) (xf_69 M v2) (-1 : Int32)) (xf_70 M v2) (1 : Int32)), .int ((6 : Int32) + (xf_69 M v2)), .int (0 : Int32)]) (r := []) ri_134_163 rfl (by decide) rm_135.2.2.2 rm_135.2.2.1 rfl rfl rfl (by decide) (ro_kf (kd_62 hL.1)) (Nat.le_of_ble_eq_true rfl) (by decide) (by decide) (xs_135 (X := X) hL) ?_
            rintro _ _ ⟨e1, e2⟩
            rw [e1, e2]
            show ro_w X _ 134 _ 166 [(8, .long (xf_135 M (v2 + (1 : Int32)) (M.2.2.1 ((lft M) + 1) (v1.toNatClampNeg)) (xf_69 M v2) (-1 : Int32))), (7, .int ((6 : Int32) + (xf_70 M v2))), (6, .int ((6 : Int32) + (xf_69 M v2))), (5, .int (xf_70 M v2)), (4, .int (xf_69 M v2)), (3, .int (v2 + (1 : Int32))), (0, .ref 62), (1, .int v1), (2, .int v2)] [.long (xf_135 M (v2 + (1 : Int32)) (xf_135 M (v2 + (1 : Int32)) (xf_135 M (v2 + (1 : Int32)) (M.2.2.1 ((lft M) + 1) (v1.toNatClampNeg)) (xf_69 M v2) (-1 : Int32)) (xf_70 M v2) (1 : Int32)) ((6 : Int32) + (xf_69 M v2)) (0 : Int32))] M (0, 0)
            refine rs_lstore (lv2 := [(10, .long (xf_135 M (v2 + (1 : Int32)) (xf_135 M (v2 + (1 : Int32)) (xf_135 M (v2 + (1 : Int32)) (M.2.2.1 ((lft M) + 1) (v1.toNatClampNeg)) (xf_69 M v2) (-1 : Int32)) (xf_70 M v2) (1 : Int32)) ((6 : Int32) + (xf_69 M v2)) (0 : Int32))), (8, .long (xf_135 M (v2 + (1 : Int32)) (M.2.2.1 ((lft M) + 1) (v1.toNatClampNeg)) (xf_69 M v2) (-1 : Int32))), (7, .int ((6 : Int32) + (xf_70 M v2))), (6, .int ((6 : Int32) + (xf_69 M v2))), (5, .int (xf_70 M v2)), (4, .int (xf_69 M v2)), (3, .int (v2 + (1 : Int32))), (0, .ref 62), (1, .int v1), (2, .int v2)]) ri_134_166 rfl rm_134.1 (by decide) rfl ?_
            refine rs_aload_n ri_134_168 rfl rfl ?_
            refine rs_lload ri_134_169 rfl rfl ?_
            refine rs_aload_n ri_134_171 rfl rfl ?_
            refine rs_gf (v := .ref (lft M)) ri_134_172 rfl (by decide) (ro_kf (kd_62 hL.1)) rfl (gf_lv8 (lft_r hL)) ?_
            refine rs_gf (v := .ref ((lft M) + 2)) ri_134_175 rfl (ro_il4 (lft_il hL)) (ro_kf (il_kd hL.1 (lft_il hL))) rfl (il_r1 hL.1 (lft_il hL)) ?_
            refine rs_iload_n ri_134_178 rfl rfl ?_
            refine rs_iald (v := (M.2.1 ((lft M) + 2) (v1.toNatClampNeg))) ri_134_179 rfl (il4o (lft_il hL)) (il_kd2 hL.1 (lft_il hL)) (vp_in_iff.mpr ⟨(ro_lo1 h1), (ro_hi2 h2 (by decide))⟩) rfl ?_
            refine rs_aload_n ri_134_180 rfl rfl ?_
            refine rs_gf (v := .ref (lft M)) ri_134_181 rfl (by decide) (ro_kf (kd_62 hL.1)) rfl (gf_lv8 (lft_r hL)) ?_
            refine rs_gf (v := .ref ((lft M) + 3)) ri_134_184 rfl (ro_il4 (lft_il hL)) (ro_kf (il_kd hL.1 (lft_il hL))) rfl (il_r2 hL.1 (lft_il hL)) ?_
            refine rs_iload_n ri_134_187 rfl rfl ?_
            refine rs_iald (v := (M.2.1 ((lft M) + 3) (v1.toNatClampNeg))) ri_134_188 rfl (il4o (lft_il hL)) (il_kd3 hL.1 (lft_il hL)) (vp_in_iff.mpr ⟨(ro_lo1 h1), (ro_hi2 h2 (by decide))⟩) rfl ?_
            refine rs_aload_n ri_134_189 rfl rfl ?_
            refine rs_gf (v := .ref (lft M)) ri_134_190 rfl (by decide) (ro_kf (kd_62 hL.1)) rfl (gf_lv8 (lft_r hL)) ?_
            refine rs_gf (v := .ref ((lft M) + 4)) ri_134_193 rfl (ro_il4 (lft_il hL)) (ro_kf (il_kd hL.1 (lft_il hL))) rfl (il_r3 hL.1 (lft_il hL)) ?_
            refine rs_iload_n ri_134_196 rfl rfl ?_
            refine rs_iald (v := (M.2.1 ((lft M) + 4) (v1.toNatClampNeg))) ri_134_197 rfl (il4o (lft_il hL)) (il_kd4 hL.1 (lft_il hL)) (vp_in_iff.mpr ⟨(ro_lo1 h1), (ro_hi2 h2 (by decide))⟩) rfl ?_
            obtain ⟨q5, hp⟩ := hp
            refine rs_virt (As := [.long (xf_135 M (v2 + (1 : Int32)) (xf_135 M (v2 + (1 : Int32)) (xf_135 M (v2 + (1 : Int32)) (M.2.2.1 ((lft M) + 1) (v1.toNatClampNeg)) (xf_69 M v2) (-1 : Int32)) (xf_70 M v2) (1 : Int32)) ((6 : Int32) + (xf_69 M v2)) (0 : Int32)), .int (M.2.1 ((lft M) + 2) (v1.toNatClampNeg)), .int (M.2.1 ((lft M) + 3) (v1.toNatClampNeg)), .int (M.2.1 ((lft M) + 4) (v1.toNatClampNeg))]) (r := []) ri_134_198 rfl (by decide) rm_131.2.2.2 rm_131.2.2.1 rfl rfl rfl (by decide) (ro_kf (kd_62 hL.1)) (Nat.le_of_ble_eq_true rfl) (by decide) (by decide) (xs_131 (X := X) hL q5) ?_
            rintro _ _ ⟨e1, e2⟩
            rw [e1, e2]
            show ro_w X _ 134 _ 201 [(10, .long (xf_135 M (v2 + (1 : Int32)) (xf_135 M (v2 + (1 : Int32)) (xf_135 M (v2 + (1 : Int32)) (M.2.2.1 ((lft M) + 1) (v1.toNatClampNeg)) (xf_69 M v2) (-1 : Int32)) (xf_70 M v2) (1 : Int32)) ((6 : Int32) + (xf_69 M v2)) (0 : Int32))), (8, .long (xf_135 M (v2 + (1 : Int32)) (M.2.2.1 ((lft M) + 1) (v1.toNatClampNeg)) (xf_69 M v2) (-1 : Int32))), (7, .int ((6 : Int32) + (xf_70 M v2))), (6, .int ((6 : Int32) + (xf_69 M v2))), (5, .int (xf_70 M v2)), (4, .int (xf_69 M v2)), (3, .int (v2 + (1 : Int32))), (0, .ref 62), (1, .int v1), (2, .int v2)] [] (xm_131 M (xf_135 M (v2 + (1 : Int32)) (xf_135 M (v2 + (1 : Int32)) (xf_135 M (v2 + (1 : Int32)) (M.2.2.1 ((lft M) + 1) (v1.toNatClampNeg)) (xf_69 M v2) (-1 : Int32)) (xf_70 M v2) (1 : Int32)) ((6 : Int32) + (xf_69 M v2)) (0 : Int32)) (M.2.1 ((lft M) + 2) (v1.toNatClampNeg)) (M.2.1 ((lft M) + 3) (v1.toNatClampNeg)) (M.2.1 ((lft M) + 4) (v1.toNatClampNeg))) (0, 0)
            have hLz1 := (xl_131 hL q5)
            generalize hMz1 : (xm_131 M (xf_135 M (v2 + (1 : Int32)) (xf_135 M (v2 + (1 : Int32)) (xf_135 M (v2 + (1 : Int32)) (M.2.2.1 ((lft M) + 1) (v1.toNatClampNeg)) (xf_69 M v2) (-1 : Int32)) (xf_70 M v2) (1 : Int32)) ((6 : Int32) + (xf_69 M v2)) (0 : Int32)) (M.2.1 ((lft M) + 2) (v1.toNatClampNeg)) (M.2.1 ((lft M) + 3) (v1.toNatClampNeg)) (M.2.1 ((lft M) + 4) (v1.toNatClampNeg))) = Mz1 at hLz1 hp ⊢
            refine rs_aload_n ri_134_201 rfl rfl ?_
            refine rs_iload_n ri_134_202 rfl rfl ?_
            refine rs_aload_n ri_134_203 rfl rfl ?_
            refine rs_iload_n ri_134_204 rfl rfl ?_
            refine rs_lload ri_134_205 rfl rfl ?_
            refine rs_iload ri_134_207 rfl rfl ?_
            refine rs_iconst (v := (0 : Int32)) ri_134_209 rfl (by decide) ?_
            refine rs_virt (As := [.int (v2 + (1 : Int32)), .long (xf_135 M (v2 + (1 : Int32)) (M.2.2.1 ((lft M) + 1) (v1.toNatClampNeg)) (xf_69 M v2) (-1 : Int32)), .int (xf_70 M v2), .int (0 : Int32)]) (r := [.int (v2 + (1 : Int32)), .ref 62]) ri_134_210 rfl (by decide) rm_135.2.2.2 rm_135.2.2.1 rfl rfl rfl (by decide) (ro_kf (kd_62 hLz1.1)) (Nat.le_of_ble_eq_true rfl) (by decide) (by decide) (xs_135 (X := X) hLz1) ?_
            rintro _ _ ⟨e1, e2⟩
            rw [e1, e2]
            show ro_w X _ 134 _ 213 [(10, .long (xf_135 M (v2 + (1 : Int32)) (xf_135 M (v2 + (1 : Int32)) (xf_135 M (v2 + (1 : Int32)) (M.2.2.1 ((lft M) + 1) (v1.toNatClampNeg)) (xf_69 M v2) (-1 : Int32)) (xf_70 M v2) (1 : Int32)) ((6 : Int32) + (xf_69 M v2)) (0 : Int32))), (8, .long (xf_135 M (v2 + (1 : Int32)) (M.2.2.1 ((lft M) + 1) (v1.toNatClampNeg)) (xf_69 M v2) (-1 : Int32))), (7, .int ((6 : Int32) + (xf_70 M v2))), (6, .int ((6 : Int32) + (xf_69 M v2))), (5, .int (xf_70 M v2)), (4, .int (xf_69 M v2)), (3, .int (v2 + (1 : Int32))), (0, .ref 62), (1, .int v1), (2, .int v2)] [.long (xf_135 Mz1 (v2 + (1 : Int32)) (xf_135 M (v2 + (1 : Int32)) (M.2.2.1 ((lft M) + 1) (v1.toNatClampNeg)) (xf_69 M v2) (-1 : Int32)) (xf_70 M v2) (0 : Int32)), .int (v2 + (1 : Int32)), .ref 62] Mz1 (0, 0)
            refine rs_iload ri_134_213 rfl rfl ?_
            refine rs_iconst (v := (1 : Int32)) ri_134_215 rfl (by decide) ?_
            refine rs_virt (As := [.int (v2 + (1 : Int32)), .long (xf_135 Mz1 (v2 + (1 : Int32)) (xf_135 M (v2 + (1 : Int32)) (M.2.2.1 ((lft M) + 1) (v1.toNatClampNeg)) (xf_69 M v2) (-1 : Int32)) (xf_70 M v2) (0 : Int32)), .int ((6 : Int32) + (xf_69 M v2)), .int (1 : Int32)]) (r := []) ri_134_216 rfl (by decide) rm_135.2.2.2 rm_135.2.2.1 rfl rfl rfl (by decide) (ro_kf (kd_62 hLz1.1)) (Nat.le_of_ble_eq_true rfl) (by decide) (by decide) (xs_135 (X := X) hLz1) ?_
            rintro _ _ ⟨e1, e2⟩
            rw [e1, e2]
            show ro_w X _ 134 _ 219 [(10, .long (xf_135 M (v2 + (1 : Int32)) (xf_135 M (v2 + (1 : Int32)) (xf_135 M (v2 + (1 : Int32)) (M.2.2.1 ((lft M) + 1) (v1.toNatClampNeg)) (xf_69 M v2) (-1 : Int32)) (xf_70 M v2) (1 : Int32)) ((6 : Int32) + (xf_69 M v2)) (0 : Int32))), (8, .long (xf_135 M (v2 + (1 : Int32)) (M.2.2.1 ((lft M) + 1) (v1.toNatClampNeg)) (xf_69 M v2) (-1 : Int32))), (7, .int ((6 : Int32) + (xf_70 M v2))), (6, .int ((6 : Int32) + (xf_69 M v2))), (5, .int (xf_70 M v2)), (4, .int (xf_69 M v2)), (3, .int (v2 + (1 : Int32))), (0, .ref 62), (1, .int v1), (2, .int v2)] [.long (xf_135 Mz1 (v2 + (1 : Int32)) (xf_135 Mz1 (v2 + (1 : Int32)) (xf_135 M (v2 + (1 : Int32)) (M.2.2.1 ((lft M) + 1) (v1.toNatClampNeg)) (xf_69 M v2) (-1 : Int32)) (xf_70 M v2) (0 : Int32)) ((6 : Int32) + (xf_69 M v2)) (1 : Int32))] Mz1 (0, 0)
            refine rs_lstore (lv2 := [(12, .long (xf_135 Mz1 (v2 + (1 : Int32)) (xf_135 Mz1 (v2 + (1 : Int32)) (xf_135 M (v2 + (1 : Int32)) (M.2.2.1 ((lft M) + 1) (v1.toNatClampNeg)) (xf_69 M v2) (-1 : Int32)) (xf_70 M v2) (0 : Int32)) ((6 : Int32) + (xf_69 M v2)) (1 : Int32))), (10, .long (xf_135 M (v2 + (1 : Int32)) (xf_135 M (v2 + (1 : Int32)) (xf_135 M (v2 + (1 : Int32)) (M.2.2.1 ((lft M) + 1) (v1.toNatClampNeg)) (xf_69 M v2) (-1 : Int32)) (xf_70 M v2) (1 : Int32)) ((6 : Int32) + (xf_69 M v2)) (0 : Int32))), (8, .long (xf_135 M (v2 + (1 : Int32)) (M.2.2.1 ((lft M) + 1) (v1.toNatClampNeg)) (xf_69 M v2) (-1 : Int32))), (7, .int ((6 : Int32) + (xf_70 M v2))), (6, .int ((6 : Int32) + (xf_69 M v2))), (5, .int (xf_70 M v2)), (4, .int (xf_69 M v2)), (3, .int (v2 + (1 : Int32))), (0, .ref 62), (1, .int v1), (2, .int v2)]) ri_134_219 rfl rm_134.1 (by decide) rfl ?_
            refine rs_iconst (v := (1 : Int32)) ri_134_221 rfl (by decide) ?_
            refine rs_iload_n ri_134_222 rfl rfl ?_
            refine rs_ishl (r := ((1 : Int32) <<< (v2 &&& 31))) ri_134_223 rfl rfl ?_
            refine rs_istore (lv2 := [(14, .int ((1 : Int32) <<< (v2 &&& 31))), (12, .long (xf_135 Mz1 (v2 + (1 : Int32)) (xf_135 Mz1 (v2 + (1 : Int32)) (xf_135 M (v2 + (1 : Int32)) (M.2.2.1 ((lft M) + 1) (v1.toNatClampNeg)) (xf_69 M v2) (-1 : Int32)) (xf_70 M v2) (0 : Int32)) ((6 : Int32) + (xf_69 M v2)) (1 : Int32))), (10, .long (xf_135 M (v2 + (1 : Int32)) (xf_135 M (v2 + (1 : Int32)) (xf_135 M (v2 + (1 : Int32)) (M.2.2.1 ((lft M) + 1) (v1.toNatClampNeg)) (xf_69 M v2) (-1 : Int32)) (xf_70 M v2) (1 : Int32)) ((6 : Int32) + (xf_69 M v2)) (0 : Int32))), (8, .long (xf_135 M (v2 + (1 : Int32)) (M.2.2.1 ((lft M) + 1) (v1.toNatClampNeg)) (xf_69 M v2) (-1 : Int32))), (7, .int ((6 : Int32) + (xf_70 M v2))), (6, .int ((6 : Int32) + (xf_69 M v2))), (5, .int (xf_70 M v2)), (4, .int (xf_69 M v2)), (3, .int (v2 + (1 : Int32))), (0, .ref 62), (1, .int v1), (2, .int v2)]) ri_134_224 rfl rm_134.1 (by decide) rfl ?_
            refine rs_aload_n ri_134_226 rfl rfl ?_
            refine rs_lload ri_134_227 rfl rfl ?_
            refine rs_aload_n ri_134_229 rfl rfl ?_
            refine rs_gf (v := .ref (lft Mz1)) ri_134_230 rfl (by decide) (ro_kf (kd_62 hLz1.1)) rfl (gf_lv8 (lft_r hLz1)) ?_
            refine rs_gf (v := .ref ((lft Mz1) + 2)) ri_134_233 rfl (ro_il4 (lft_il hLz1)) (ro_kf (il_kd hLz1.1 (lft_il hLz1))) rfl (il_r1 hLz1.1 (lft_il hLz1)) ?_
            refine rs_iload_n ri_134_236 rfl rfl ?_
            refine rs_iald (v := (Mz1.2.1 ((lft Mz1) + 2) (v1.toNatClampNeg))) ri_134_237 rfl (il4o (lft_il hLz1)) (il_kd2 hLz1.1 (lft_il hLz1)) (vp_in_iff.mpr ⟨(ro_lo1 h1), (ro_hi2 h2 (by decide))⟩) rfl ?_
            refine rs_aload_n ri_134_238 rfl rfl ?_
            refine rs_gf (v := .ref (lft Mz1)) ri_134_239 rfl (by decide) (ro_kf (kd_62 hLz1.1)) rfl (gf_lv8 (lft_r hLz1)) ?_
            refine rs_gf (v := .ref ((lft Mz1) + 3)) ri_134_242 rfl (ro_il4 (lft_il hLz1)) (ro_kf (il_kd hLz1.1 (lft_il hLz1))) rfl (il_r2 hLz1.1 (lft_il hLz1)) ?_
            refine rs_iload_n ri_134_245 rfl rfl ?_
            refine rs_iald (v := (Mz1.2.1 ((lft Mz1) + 3) (v1.toNatClampNeg))) ri_134_246 rfl (il4o (lft_il hLz1)) (il_kd3 hLz1.1 (lft_il hLz1)) (vp_in_iff.mpr ⟨(ro_lo1 h1), (ro_hi2 h2 (by decide))⟩) rfl ?_
            refine rs_ldc (v := (1048576 : Int32)) ri_134_247 rfl rfl (by decide) ?_
            refine rs_iadd (r := ((Mz1.2.1 ((lft Mz1) + 3) (v1.toNatClampNeg)) + (1048576 : Int32))) ri_134_249 rfl rfl ?_
            refine rs_iload ri_134_250 rfl rfl ?_
            refine rs_iadd (r := (((Mz1.2.1 ((lft Mz1) + 3) (v1.toNatClampNeg)) + (1048576 : Int32)) + ((1 : Int32) <<< (v2 &&& 31)))) ri_134_252 rfl rfl ?_
            refine rs_aload_n ri_134_253 rfl rfl ?_
            refine rs_gf (v := .ref (lft Mz1)) ri_134_254 rfl (by decide) (ro_kf (kd_62 hLz1.1)) rfl (gf_lv8 (lft_r hLz1)) ?_
            refine rs_gf (v := .ref ((lft Mz1) + 4)) ri_134_257 rfl (ro_il4 (lft_il hLz1)) (ro_kf (il_kd hLz1.1 (lft_il hLz1))) rfl (il_r3 hLz1.1 (lft_il hLz1)) ?_
            refine rs_iload_n ri_134_260 rfl rfl ?_
            refine rs_iald (v := (Mz1.2.1 ((lft Mz1) + 4) (v1.toNatClampNeg))) ri_134_261 rfl (il4o (lft_il hLz1)) (il_kd4 hLz1.1 (lft_il hLz1)) (vp_in_iff.mpr ⟨(ro_lo1 h1), (ro_hi2 h2 (by decide))⟩) rfl ?_
            refine rs_iload ri_134_262 rfl rfl ?_
            refine rs_ior (r := ((Mz1.2.1 ((lft Mz1) + 4) (v1.toNatClampNeg)) ||| ((1 : Int32) <<< (v2 &&& 31)))) ri_134_264 rfl rfl ?_
            obtain ⟨q6, hp⟩ := hp
            refine rs_virt (As := [.long (xf_135 Mz1 (v2 + (1 : Int32)) (xf_135 Mz1 (v2 + (1 : Int32)) (xf_135 M (v2 + (1 : Int32)) (M.2.2.1 ((lft M) + 1) (v1.toNatClampNeg)) (xf_69 M v2) (-1 : Int32)) (xf_70 M v2) (0 : Int32)) ((6 : Int32) + (xf_69 M v2)) (1 : Int32)), .int (Mz1.2.1 ((lft Mz1) + 2) (v1.toNatClampNeg)), .int (((Mz1.2.1 ((lft Mz1) + 3) (v1.toNatClampNeg)) + (1048576 : Int32)) + ((1 : Int32) <<< (v2 &&& 31))), .int ((Mz1.2.1 ((lft Mz1) + 4) (v1.toNatClampNeg)) ||| ((1 : Int32) <<< (v2 &&& 31)))]) (r := []) ri_134_265 rfl (by decide) rm_131.2.2.2 rm_131.2.2.1 rfl rfl rfl (by decide) (ro_kf (kd_62 hLz1.1)) (Nat.le_of_ble_eq_true rfl) (by decide) (by decide) (xs_131 (X := X) hLz1 q6) ?_
            rintro _ _ ⟨e1, e2⟩
            rw [e1, e2]
            show ro_w X _ 134 _ 268 [(14, .int ((1 : Int32) <<< (v2 &&& 31))), (12, .long (xf_135 Mz1 (v2 + (1 : Int32)) (xf_135 Mz1 (v2 + (1 : Int32)) (xf_135 M (v2 + (1 : Int32)) (M.2.2.1 ((lft M) + 1) (v1.toNatClampNeg)) (xf_69 M v2) (-1 : Int32)) (xf_70 M v2) (0 : Int32)) ((6 : Int32) + (xf_69 M v2)) (1 : Int32))), (10, .long (xf_135 M (v2 + (1 : Int32)) (xf_135 M (v2 + (1 : Int32)) (xf_135 M (v2 + (1 : Int32)) (M.2.2.1 ((lft M) + 1) (v1.toNatClampNeg)) (xf_69 M v2) (-1 : Int32)) (xf_70 M v2) (1 : Int32)) ((6 : Int32) + (xf_69 M v2)) (0 : Int32))), (8, .long (xf_135 M (v2 + (1 : Int32)) (M.2.2.1 ((lft M) + 1) (v1.toNatClampNeg)) (xf_69 M v2) (-1 : Int32))), (7, .int ((6 : Int32) + (xf_70 M v2))), (6, .int ((6 : Int32) + (xf_69 M v2))), (5, .int (xf_70 M v2)), (4, .int (xf_69 M v2)), (3, .int (v2 + (1 : Int32))), (0, .ref 62), (1, .int v1), (2, .int v2)] [] (xm_131 Mz1 (xf_135 Mz1 (v2 + (1 : Int32)) (xf_135 Mz1 (v2 + (1 : Int32)) (xf_135 M (v2 + (1 : Int32)) (M.2.2.1 ((lft M) + 1) (v1.toNatClampNeg)) (xf_69 M v2) (-1 : Int32)) (xf_70 M v2) (0 : Int32)) ((6 : Int32) + (xf_69 M v2)) (1 : Int32)) (Mz1.2.1 ((lft Mz1) + 2) (v1.toNatClampNeg)) (((Mz1.2.1 ((lft Mz1) + 3) (v1.toNatClampNeg)) + (1048576 : Int32)) + ((1 : Int32) <<< (v2 &&& 31))) ((Mz1.2.1 ((lft Mz1) + 4) (v1.toNatClampNeg)) ||| ((1 : Int32) <<< (v2 &&& 31)))) (0, 0)
            have hLz2 := (xl_131 hLz1 q6)
            generalize hMz2 : (xm_131 Mz1 (xf_135 Mz1 (v2 + (1 : Int32)) (xf_135 Mz1 (v2 + (1 : Int32)) (xf_135 M (v2 + (1 : Int32)) (M.2.2.1 ((lft M) + 1) (v1.toNatClampNeg)) (xf_69 M v2) (-1 : Int32)) (xf_70 M v2) (0 : Int32)) ((6 : Int32) + (xf_69 M v2)) (1 : Int32)) (Mz1.2.1 ((lft Mz1) + 2) (v1.toNatClampNeg)) (((Mz1.2.1 ((lft Mz1) + 3) (v1.toNatClampNeg)) + (1048576 : Int32)) + ((1 : Int32) <<< (v2 &&& 31))) ((Mz1.2.1 ((lft Mz1) + 4) (v1.toNatClampNeg)) ||| ((1 : Int32) <<< (v2 &&& 31)))) = Mz2 at hLz2 ⊢
            refine rs_ret ri_134_268 rm_134.2.1 (by decide) ?_
            try subst hMz3
            try subst hMz2
            try subst hMz1
            exact ⟨by rfl, by unfold xm_134; first | (simp only [if_neg h1, if_neg h2, if_neg h3, if_pos h4, if_pos h5]; done) | rfl⟩
          · have hp := hp.2 h5
            refine rs_aload_n ri_134_82 rfl rfl ?_
            refine rs_iload_n ri_134_83 rfl rfl ?_
            refine rs_aload_n ri_134_84 rfl rfl ?_
            refine rs_iload_n ri_134_85 rfl rfl ?_
            refine rs_lload ri_134_86 rfl rfl ?_
            refine rs_iload ri_134_88 rfl rfl ?_
            refine rs_iconst (v := (-1 : Int32)) ri_134_90 rfl (by decide) ?_
            refine rs_virt (As := [.int (v2 + (1 : Int32)), .long (M.2.2.1 ((lft M) + 1) (v1.toNatClampNeg)), .int ((6 : Int32) + (xf_69 M v2)), .int (-1 : Int32)]) (r := [.int (v2 + (1 : Int32)), .ref 62]) ri_134_91 rfl (by decide) rm_135.2.2.2 rm_135.2.2.1 rfl rfl rfl (by decide) (ro_kf (kd_62 hL.1)) (Nat.le_of_ble_eq_true rfl) (by decide) (by decide) (xs_135 (X := X) hL) ?_
            rintro _ _ ⟨e1, e2⟩
            rw [e1, e2]
            show ro_w X _ 134 _ 94 [(8, .long (M.2.2.1 ((lft M) + 1) (v1.toNatClampNeg))), (7, .int ((6 : Int32) + (xf_70 M v2))), (6, .int ((6 : Int32) + (xf_69 M v2))), (5, .int (xf_70 M v2)), (4, .int (xf_69 M v2)), (3, .int (v2 + (1 : Int32))), (0, .ref 62), (1, .int v1), (2, .int v2)] [.long (xf_135 M (v2 + (1 : Int32)) (M.2.2.1 ((lft M) + 1) (v1.toNatClampNeg)) ((6 : Int32) + (xf_69 M v2)) (-1 : Int32)), .int (v2 + (1 : Int32)), .ref 62] M (0, 0)
            refine rs_iload ri_134_94 rfl rfl ?_
            refine rs_iconst (v := (1 : Int32)) ri_134_96 rfl (by decide) ?_
            refine rs_virt (As := [.int (v2 + (1 : Int32)), .long (xf_135 M (v2 + (1 : Int32)) (M.2.2.1 ((lft M) + 1) (v1.toNatClampNeg)) ((6 : Int32) + (xf_69 M v2)) (-1 : Int32)), .int ((6 : Int32) + (xf_70 M v2)), .int (1 : Int32)]) (r := []) ri_134_97 rfl (by decide) rm_135.2.2.2 rm_135.2.2.1 rfl rfl rfl (by decide) (ro_kf (kd_62 hL.1)) (Nat.le_of_ble_eq_true rfl) (by decide) (by decide) (xs_135 (X := X) hL) ?_
            rintro _ _ ⟨e1, e2⟩
            rw [e1, e2]
            show ro_w X _ 134 _ 100 [(8, .long (M.2.2.1 ((lft M) + 1) (v1.toNatClampNeg))), (7, .int ((6 : Int32) + (xf_70 M v2))), (6, .int ((6 : Int32) + (xf_69 M v2))), (5, .int (xf_70 M v2)), (4, .int (xf_69 M v2)), (3, .int (v2 + (1 : Int32))), (0, .ref 62), (1, .int v1), (2, .int v2)] [.long (xf_135 M (v2 + (1 : Int32)) (xf_135 M (v2 + (1 : Int32)) (M.2.2.1 ((lft M) + 1) (v1.toNatClampNeg)) ((6 : Int32) + (xf_69 M v2)) (-1 : Int32)) ((6 : Int32) + (xf_70 M v2)) (1 : Int32))] M (0, 0)
            refine rs_lstore (lv2 := [(8, .long (xf_135 M (v2 + (1 : Int32)) (xf_135 M (v2 + (1 : Int32)) (M.2.2.1 ((lft M) + 1) (v1.toNatClampNeg)) ((6 : Int32) + (xf_69 M v2)) (-1 : Int32)) ((6 : Int32) + (xf_70 M v2)) (1 : Int32))), (7, .int ((6 : Int32) + (xf_70 M v2))), (6, .int ((6 : Int32) + (xf_69 M v2))), (5, .int (xf_70 M v2)), (4, .int (xf_69 M v2)), (3, .int (v2 + (1 : Int32))), (0, .ref 62), (1, .int v1), (2, .int v2)]) ri_134_100 rfl rm_134.1 (by decide) rfl ?_
            refine rs_aload_n ri_134_102 rfl rfl ?_
            refine rs_lload ri_134_103 rfl rfl ?_
            refine rs_aload_n ri_134_105 rfl rfl ?_
            refine rs_gf (v := .ref (lft M)) ri_134_106 rfl (by decide) (ro_kf (kd_62 hL.1)) rfl (gf_lv8 (lft_r hL)) ?_
            refine rs_gf (v := .ref ((lft M) + 2)) ri_134_109 rfl (ro_il4 (lft_il hL)) (ro_kf (il_kd hL.1 (lft_il hL))) rfl (il_r1 hL.1 (lft_il hL)) ?_
            refine rs_iload_n ri_134_112 rfl rfl ?_
            refine rs_iald (v := (M.2.1 ((lft M) + 2) (v1.toNatClampNeg))) ri_134_113 rfl (il4o (lft_il hL)) (il_kd2 hL.1 (lft_il hL)) (vp_in_iff.mpr ⟨(ro_lo1 h1), (ro_hi2 h2 (by decide))⟩) rfl ?_
            refine rs_aload_n ri_134_114 rfl rfl ?_
            refine rs_gf (v := .ref (lft M)) ri_134_115 rfl (by decide) (ro_kf (kd_62 hL.1)) rfl (gf_lv8 (lft_r hL)) ?_
            refine rs_gf (v := .ref ((lft M) + 3)) ri_134_118 rfl (ro_il4 (lft_il hL)) (ro_kf (il_kd hL.1 (lft_il hL))) rfl (il_r2 hL.1 (lft_il hL)) ?_
            refine rs_iload_n ri_134_121 rfl rfl ?_
            refine rs_iald (v := (M.2.1 ((lft M) + 3) (v1.toNatClampNeg))) ri_134_122 rfl (il4o (lft_il hL)) (il_kd3 hL.1 (lft_il hL)) (vp_in_iff.mpr ⟨(ro_lo1 h1), (ro_hi2 h2 (by decide))⟩) rfl ?_
            refine rs_aload_n ri_134_123 rfl rfl ?_
            refine rs_gf (v := .ref (lft M)) ri_134_124 rfl (by decide) (ro_kf (kd_62 hL.1)) rfl (gf_lv8 (lft_r hL)) ?_
            refine rs_gf (v := .ref ((lft M) + 4)) ri_134_127 rfl (ro_il4 (lft_il hL)) (ro_kf (il_kd hL.1 (lft_il hL))) rfl (il_r3 hL.1 (lft_il hL)) ?_
            refine rs_iload_n ri_134_130 rfl rfl ?_
            refine rs_iald (v := (M.2.1 ((lft M) + 4) (v1.toNatClampNeg))) ri_134_131 rfl (il4o (lft_il hL)) (il_kd4 hL.1 (lft_il hL)) (vp_in_iff.mpr ⟨(ro_lo1 h1), (ro_hi2 h2 (by decide))⟩) rfl ?_
            obtain ⟨q7, hp⟩ := hp
            refine rs_virt (As := [.long (xf_135 M (v2 + (1 : Int32)) (xf_135 M (v2 + (1 : Int32)) (M.2.2.1 ((lft M) + 1) (v1.toNatClampNeg)) ((6 : Int32) + (xf_69 M v2)) (-1 : Int32)) ((6 : Int32) + (xf_70 M v2)) (1 : Int32)), .int (M.2.1 ((lft M) + 2) (v1.toNatClampNeg)), .int (M.2.1 ((lft M) + 3) (v1.toNatClampNeg)), .int (M.2.1 ((lft M) + 4) (v1.toNatClampNeg))]) (r := []) ri_134_132 rfl (by decide) rm_131.2.2.2 rm_131.2.2.1 rfl rfl rfl (by decide) (ro_kf (kd_62 hL.1)) (Nat.le_of_ble_eq_true rfl) (by decide) (by decide) (xs_131 (X := X) hL q7) ?_
            rintro _ _ ⟨e1, e2⟩
            rw [e1, e2]
            show ro_w X _ 134 _ 135 [(8, .long (xf_135 M (v2 + (1 : Int32)) (xf_135 M (v2 + (1 : Int32)) (M.2.2.1 ((lft M) + 1) (v1.toNatClampNeg)) ((6 : Int32) + (xf_69 M v2)) (-1 : Int32)) ((6 : Int32) + (xf_70 M v2)) (1 : Int32))), (7, .int ((6 : Int32) + (xf_70 M v2))), (6, .int ((6 : Int32) + (xf_69 M v2))), (5, .int (xf_70 M v2)), (4, .int (xf_69 M v2)), (3, .int (v2 + (1 : Int32))), (0, .ref 62), (1, .int v1), (2, .int v2)] [] (xm_131 M (xf_135 M (v2 + (1 : Int32)) (xf_135 M (v2 + (1 : Int32)) (M.2.2.1 ((lft M) + 1) (v1.toNatClampNeg)) ((6 : Int32) + (xf_69 M v2)) (-1 : Int32)) ((6 : Int32) + (xf_70 M v2)) (1 : Int32)) (M.2.1 ((lft M) + 2) (v1.toNatClampNeg)) (M.2.1 ((lft M) + 3) (v1.toNatClampNeg)) (M.2.1 ((lft M) + 4) (v1.toNatClampNeg))) (0, 0)
            have hLz3 := (xl_131 hL q7)
            generalize hMz3 : (xm_131 M (xf_135 M (v2 + (1 : Int32)) (xf_135 M (v2 + (1 : Int32)) (M.2.2.1 ((lft M) + 1) (v1.toNatClampNeg)) ((6 : Int32) + (xf_69 M v2)) (-1 : Int32)) ((6 : Int32) + (xf_70 M v2)) (1 : Int32)) (M.2.1 ((lft M) + 2) (v1.toNatClampNeg)) (M.2.1 ((lft M) + 3) (v1.toNatClampNeg)) (M.2.1 ((lft M) + 4) (v1.toNatClampNeg))) = Mz3 at hLz3 ⊢
            refine rs_ret ri_134_135 rm_134.2.1 (by decide) ?_
            try subst hMz3
            try subst hMz2
            try subst hMz1
            exact ⟨by rfl, by unfold xm_134; first | (simp only [if_neg h1, if_neg h2, if_neg h3, if_pos h4, if_neg h5]; done) | rfl⟩
        · have hp := hp.2 h4
          refine rs_ret ri_134_21 rm_134.2.1 (by decide) ?_
          try subst hMz3
          try subst hMz2
          try subst hMz1
          exact ⟨by rfl, by unfold xm_134; first | (simp only [if_neg h1, if_neg h2, if_neg h3, if_neg h4]; done) | rfl⟩
set_option maxHeartbeats 2000000 in
theorem xl_134 {M : ro_Mm} {v1 : Int32} {v2 : Int32} (hL : ro_lw M) (hp : xp_134 M v1 v2) : ro_lw (xm_134 M v1 v2) := by
  unfold xp_134 at hp
  unfold xm_134
  by_cases h1 : v1 < (0 : Int32)
  · have hp := hp.1 h1
    rw [if_pos h1]
    exact hL
  · have hp := hp.2 h1
    rw [if_neg h1]
    by_cases h2 : (8192 : Int32) ≤ v1
    · have hp := hp.1 h2
      rw [if_pos h2]
      exact hL
    · have hp := hp.2 h2
      rw [if_neg h2]
      by_cases h3 : v2 < (0 : Int32)
      · have hp := hp.1 h3
        rw [if_pos h3]
        exact hL
      · have hp := hp.2 h3
        rw [if_neg h3]
        by_cases h4 : v2 < (20 : Int32)
        · have hp := hp.1 h4
          rw [if_pos h4]
          by_cases h5 : (xf_71 M v2)
          · have hp := hp.1 h5
            rw [if_pos h5]
            obtain ⟨q5, hp⟩ := hp
            obtain ⟨q6, hp⟩ := hp
            exact (xl_131 (xl_131 hL q5) q6)
          · have hp := hp.2 h5
            rw [if_neg h5]
            obtain ⟨q7, hp⟩ := hp
            exact (xl_131 hL q7)
        · have hp := hp.2 h4
          rw [if_neg h4]
          exact hL
/-- a loop of RefusedOnce$Ways.find(LRefusedOnce$Shelf;)V -/
noncomputable def xg_120_35 : Nat → ro_Mm → Int32 → Int32 → Nat → Int32 × ro_Mm
  | 0, M, v3, v2, c1 => (v3, M)
  | n + 1, M, v3, v2, c1 => (if v3 < (0 : Int32) then (v3, M) else (xg_120_35 n (xm_124 M v3) (v3 + (-1 : Int32)) v2 c1))
def xq_120_35 : Nat → ro_Mm → Int32 → Int32 → Nat → Prop
  | 0, _, _, _, _ => False
  | n + 1, M, v3, v2, c1 => ((v3 < (0 : Int32) → True) ∧ (¬ (v3 < (0 : Int32)) → (xp_124 M v3 ∧ (xq_120_35 n (xm_124 M v3) (v3 + (-1 : Int32)) v2 c1))))
set_option maxHeartbeats 2000000 in
theorem xt_120_35 {X : ro_Sx} {post : ro_Po} : ∀ (n : Nat) {M : ro_Mm} {v3 : Int32} {v2 : Int32} {c1 : Nat} (hL : ro_lw M) (hc1 : ro_is c1) (hp : xq_120_35 n M v3 v2 c1) (hk : ro_w X 3 120 post 50 [(3, .int (xg_120_35 n M v3 v2 c1).1), (2, .int v2), (0, .ref 62), (1, .ref c1)] [] (xg_120_35 n M v3 v2 c1).2 (0, 0)), ro_w X 3 120 post 35 [(3, .int v3), (2, .int v2), (0, .ref 62), (1, .ref c1)] [] M (0, 0) := by
  intro n
  induction n with
  | zero => intro M v3 v2 c1 hL hc1 hp hk; exact False.elim hp
  | succ n ih =>
    intro M v3 v2 c1 hL hc1 hp hk
    rw [xq_120_35] at hp
    refine rs_iload_n ri_120_35 rfl rfl ?_
    refine rs_if_lt (t := 50) ri_120_36 rfl rfl (fun h3 => ?_) (fun h3 => ?_)
    · skip
      have e : xg_120_35 (n + 1) M v3 v2 c1 = (v3, M) := by rw [xg_120_35]; first | (simp only [if_pos h3]; done) | rfl
      rw [e] at hk
      exact ro_w_lv (ro_sub_c rfl (ro_sub_c rfl (ro_sub_c rfl (ro_sub_c rfl (ro_sub_n rfl))))) hk
    · have hp := hp.2 h3
      refine rs_aload_n ri_120_39 rfl rfl ?_
      refine rs_iload_n ri_120_40 rfl rfl ?_
      obtain ⟨q3, hp⟩ := hp
      refine rs_virt (As := [.int v3]) (r := []) ri_120_41 rfl (by decide) rm_124.2.2.2 rm_124.2.2.1 rfl rfl rfl (by decide) (ro_kf (kd_62 hL.1)) (Nat.le_of_ble_eq_true rfl) (by decide) (by decide) (xs_124 (X := X) hL q3) ?_
      rintro _ _ ⟨e1, e2⟩
      rw [e1, e2]
      show ro_w X _ 120 _ 44 [(3, .int v3), (2, .int v2), (0, .ref 62), (1, .ref c1)] [] (xm_124 M v3) (0, 0)
      refine rs_iinc (v := (v3 + (-1 : Int32))) (lv2 := [(3, .int (v3 + (-1 : Int32))), (2, .int v2), (0, .ref 62), (1, .ref c1)]) ri_120_44 rfl rfl rfl rm_120.1 (by decide) rfl ?_
      refine rs_goto (t := 35) ri_120_47 rfl ?_
      have e : xg_120_35 (n + 1) M v3 v2 c1 = xg_120_35 n (xm_124 M v3) (v3 + (-1 : Int32)) v2 c1 := by rw [xg_120_35]; first | (simp only [if_neg h3]; done) | rfl
      rw [e] at hk
      exact ro_w_lv (ro_sub_c rfl (ro_sub_c rfl (ro_sub_c rfl (ro_sub_c rfl (ro_sub_n rfl))))) (ih (xl_124 hL q3) hc1 hp hk)
set_option maxHeartbeats 2000000 in
theorem xl_120_35 : ∀ (n : Nat) {M : ro_Mm} {v3 : Int32} {v2 : Int32} {c1 : Nat} (hL : ro_lw M) (hc1 : ro_is c1) (hp : xq_120_35 n M v3 v2 c1), ro_lw (xg_120_35 n M v3 v2 c1).2 := by
  intro n
  induction n with
  | zero => intro M v3 v2 c1 hL hc1 hp; exact False.elim hp
  | succ n ih =>
    intro M v3 v2 c1 hL hc1 hp
    rw [xq_120_35] at hp
    rw [xg_120_35]
    by_cases h3 : v3 < (0 : Int32)
    · have hp := hp.1 h3
      rw [if_pos h3]
      exact hL
    · have hp := hp.2 h3
      rw [if_neg h3]
      obtain ⟨q3, hp⟩ := hp
      exact ih (xl_124 hL q3) hc1 hp
/-- a loop of RefusedOnce$Ways.find(LRefusedOnce$Shelf;)V -/
noncomputable def xg_120_83 : Nat → ro_Mm → Int32 → Int32 → Int32 → Nat → Int32 × ro_Mm
  | 0, M, v4, v3, v2, c1 => (v4, M)
  | n + 1, M, v4, v3, v2, c1 => (if (M.2.1 (lft M) 4) ≤ v4 then (v4, M) else (if (8192 : Int32) ≤ v4 then (v4, M) else (xg_120_83 n (xm_134 M v4 v3) (v4 + (1 : Int32)) v3 v2 c1)))
def xq_120_83 : Nat → ro_Mm → Int32 → Int32 → Int32 → Nat → Prop
  | 0, _, _, _, _, _ => False
  | n + 1, M, v4, v3, v2, c1 => (((M.2.1 (lft M) 4) ≤ v4 → True) ∧ (¬ ((M.2.1 (lft M) 4) ≤ v4) → (((8192 : Int32) ≤ v4 → True) ∧ (¬ ((8192 : Int32) ≤ v4) → (xp_134 M v4 v3 ∧ (xq_120_83 n (xm_134 M v4 v3) (v4 + (1 : Int32)) v3 v2 c1))))))
set_option maxHeartbeats 2000000 in
theorem xt_120_83 {X : ro_Sx} {post : ro_Po} : ∀ (n : Nat) {M : ro_Mm} {v4 : Int32} {v3 : Int32} {v2 : Int32} {c1 : Nat} (hL : ro_lw M) (hc1 : ro_is c1) (hp : xq_120_83 n M v4 v3 v2 c1) (hk : ro_w X 3 120 post 116 [(4, .int (xg_120_83 n M v4 v3 v2 c1).1), (3, .int v3), (2, .int v2), (0, .ref 62), (1, .ref c1)] [] (xg_120_83 n M v4 v3 v2 c1).2 (0, 0)), ro_w X 3 120 post 83 [(4, .int v4), (3, .int v3), (2, .int v2), (0, .ref 62), (1, .ref c1)] [] M (0, 0) := by
  intro n
  induction n with
  | zero => intro M v4 v3 v2 c1 hL hc1 hp hk; exact False.elim hp
  | succ n ih =>
    intro M v4 v3 v2 c1 hL hc1 hp hk
    rw [xq_120_83] at hp
    refine rs_iload ri_120_83 rfl rfl ?_
    refine rs_aload_n ri_120_85 rfl rfl ?_
    refine rs_gf (v := .ref (lft M)) ri_120_86 rfl (by decide) (ro_kf (kd_62 hL.1)) rfl (gf_lv8 (lft_r hL)) ?_
    refine rs_gf (v := .int (M.2.1 (lft M) 4)) ri_120_89 rfl (ro_il4 (lft_il hL)) (ro_kf (il_kd hL.1 (lft_il hL))) rfl rfl ?_
    refine rs_icmp_ge (t := 116) ri_120_92 rfl rfl (fun h11 => ?_) (fun h11 => ?_)
    · skip
      have e : xg_120_83 (n + 1) M v4 v3 v2 c1 = (v4, M) := by rw [xg_120_83]; first | (simp only [if_pos h11]; done) | rfl
      rw [e] at hk
      exact ro_w_lv (ro_sub_c rfl (ro_sub_c rfl (ro_sub_c rfl (ro_sub_c rfl (ro_sub_c rfl (ro_sub_n rfl)))))) hk
    · have hp := hp.2 h11
      refine rs_iload ri_120_95 rfl rfl ?_
      refine rs_sipush (v := (8192 : Int32)) ri_120_97 rfl (by decide) ?_
      refine rs_icmp_ge (t := 116) ri_120_100 rfl rfl (fun h12 => ?_) (fun h12 => ?_)
      · skip
        have e : xg_120_83 (n + 1) M v4 v3 v2 c1 = (v4, M) := by rw [xg_120_83]; first | (simp only [if_neg h11, if_pos h12]; done) | rfl
        rw [e] at hk
        exact ro_w_lv (ro_sub_c rfl (ro_sub_c rfl (ro_sub_c rfl (ro_sub_c rfl (ro_sub_c rfl (ro_sub_n rfl)))))) hk
      · have hp := hp.2 h12
        refine rs_aload_n ri_120_103 rfl rfl ?_
        refine rs_iload ri_120_104 rfl rfl ?_
        refine rs_iload_n ri_120_106 rfl rfl ?_
        obtain ⟨q12, hp⟩ := hp
        refine rs_virt (As := [.int v4, .int v3]) (r := []) ri_120_107 rfl (by decide) rm_134.2.2.2 rm_134.2.2.1 rfl rfl rfl (by decide) (ro_kf (kd_62 hL.1)) (Nat.le_of_ble_eq_true rfl) (by decide) (by decide) (xs_134 (X := X) hL q12) ?_
        rintro _ _ ⟨e1, e2⟩
        rw [e1, e2]
        show ro_w X _ 120 _ 110 [(4, .int v4), (3, .int v3), (2, .int v2), (0, .ref 62), (1, .ref c1)] [] (xm_134 M v4 v3) (0, 0)
        refine rs_iinc (v := (v4 + (1 : Int32))) (lv2 := [(4, .int (v4 + (1 : Int32))), (3, .int v3), (2, .int v2), (0, .ref 62), (1, .ref c1)]) ri_120_110 rfl rfl rfl rm_120.1 (by decide) rfl ?_
        refine rs_goto (t := 83) ri_120_113 rfl ?_
        have e : xg_120_83 (n + 1) M v4 v3 v2 c1 = xg_120_83 n (xm_134 M v4 v3) (v4 + (1 : Int32)) v3 v2 c1 := by rw [xg_120_83]; first | (simp only [if_neg h11, if_neg h12]; done) | rfl
        rw [e] at hk
        exact ro_w_lv (ro_sub_c rfl (ro_sub_c rfl (ro_sub_c rfl (ro_sub_c rfl (ro_sub_c rfl (ro_sub_n rfl)))))) (ih (xl_134 hL q12) hc1 hp hk)
set_option maxHeartbeats 2000000 in
theorem xl_120_83 : ∀ (n : Nat) {M : ro_Mm} {v4 : Int32} {v3 : Int32} {v2 : Int32} {c1 : Nat} (hL : ro_lw M) (hc1 : ro_is c1) (hp : xq_120_83 n M v4 v3 v2 c1), ro_lw (xg_120_83 n M v4 v3 v2 c1).2 := by
  intro n
  induction n with
  | zero => intro M v4 v3 v2 c1 hL hc1 hp; exact False.elim hp
  | succ n ih =>
    intro M v4 v3 v2 c1 hL hc1 hp
    rw [xq_120_83] at hp
    rw [xg_120_83]
    by_cases h11 : (M.2.1 (lft M) 4) ≤ v4
    · have hp := hp.1 h11
      rw [if_pos h11]
      exact hL
    · have hp := hp.2 h11
      rw [if_neg h11]
      by_cases h12 : (8192 : Int32) ≤ v4
      · have hp := hp.1 h12
        rw [if_pos h12]
        exact hL
      · have hp := hp.2 h12
        rw [if_neg h12]
        obtain ⟨q12, hp⟩ := hp
        exact ih (xl_134 hL q12) hc1 hp
/-- a loop of RefusedOnce$Ways.find(LRefusedOnce$Shelf;)V -/
noncomputable def xg_120_71 : Nat → ro_Mm → Int32 → Int32 → Nat → Int32 × ro_Mm
  | 0, M, v3, v2, c1 => (v3, M)
  | n + 1, M, v3, v2, c1 => (if v2 ≤ v3 then (v3, M) else (xg_120_71 n (xm_133 (xg_120_83 lp_N (xm_128 M) (0 : Int32) v3 v2 c1).2) (v3 + (1 : Int32)) v2 c1))
def xq_120_71 : Nat → ro_Mm → Int32 → Int32 → Nat → Prop
  | 0, _, _, _, _ => False
  | n + 1, M, v3, v2, c1 => ((v2 ≤ v3 → True) ∧ (¬ (v2 ≤ v3) → (xp_128 M ∧ (xq_120_83 lp_N (xm_128 M) (0 : Int32) v3 v2 c1 ∧ (xq_120_71 n (xm_133 (xg_120_83 lp_N (xm_128 M) (0 : Int32) v3 v2 c1).2) (v3 + (1 : Int32)) v2 c1)))))
set_option maxHeartbeats 2000000 in
theorem xt_120_71 {X : ro_Sx} {post : ro_Po} : ∀ (n : Nat) {M : ro_Mm} {v3 : Int32} {v2 : Int32} {c1 : Nat} (hL : ro_lw M) (hc1 : ro_is c1) (hp : xq_120_71 n M v3 v2 c1) (hk : ro_w X 3 120 post 126 [(3, .int (xg_120_71 n M v3 v2 c1).1), (2, .int v2), (0, .ref 62), (1, .ref c1)] [] (xg_120_71 n M v3 v2 c1).2 (0, 0)), ro_w X 3 120 post 71 [(3, .int v3), (2, .int v2), (0, .ref 62), (1, .ref c1)] [] M (0, 0) := by
  intro n
  induction n with
  | zero => intro M v3 v2 c1 hL hc1 hp hk; exact False.elim hp
  | succ n ih =>
    intro M v3 v2 c1 hL hc1 hp hk
    rw [xq_120_71] at hp
    refine rs_iload_n ri_120_71 rfl rfl ?_
    refine rs_iload_n ri_120_72 rfl rfl ?_
    refine rs_icmp_ge (t := 126) ri_120_73 rfl rfl (fun h9 => ?_) (fun h9 => ?_)
    · skip
      have e : xg_120_71 (n + 1) M v3 v2 c1 = (v3, M) := by rw [xg_120_71]; first | (simp only [if_pos h9]; done) | rfl
      rw [e] at hk
      exact ro_w_lv (ro_sub_c rfl (ro_sub_c rfl (ro_sub_c rfl (ro_sub_c rfl (ro_sub_n rfl))))) hk
    · have hp := hp.2 h9
      refine rs_aload_n ri_120_76 rfl rfl ?_
      obtain ⟨q9, hp⟩ := hp
      refine rs_virt (As := []) (r := []) ri_120_77 rfl (by decide) rm_128.2.2.2 rm_128.2.2.1 rfl rfl rfl (by decide) (ro_kf (kd_62 hL.1)) (Nat.le_of_ble_eq_true rfl) (by decide) (by decide) (xs_128 (X := X) hL q9) ?_
      rintro _ _ ⟨e1, e2⟩
      rw [e1, e2]
      show ro_w X _ 120 _ 80 [(3, .int v3), (2, .int v2), (0, .ref 62), (1, .ref c1)] [] (xm_128 M) (0, 0)
      refine rs_iconst (v := (0 : Int32)) ri_120_80 rfl (by decide) ?_
      refine rs_istore (lv2 := [(4, .int (0 : Int32)), (3, .int v3), (2, .int v2), (0, .ref 62), (1, .ref c1)]) ri_120_81 rfl rm_120.1 (by decide) rfl ?_
      obtain ⟨q13, hp⟩ := hp
      refine xt_120_83 lp_N (xl_128 hL q9) hc1 q13 ?_
      refine rs_aload_n ri_120_116 rfl rfl ?_
      refine rs_virt (As := []) (r := []) ri_120_117 rfl (by decide) rm_133.2.2.2 rm_133.2.2.1 rfl rfl rfl (by decide) (ro_kf (kd_62 (xl_120_83 lp_N (xl_128 hL q9) hc1 q13).1)) (Nat.le_of_ble_eq_true rfl) (by decide) (by decide) (xs_133 (X := X) (xl_120_83 lp_N (xl_128 hL q9) hc1 q13)) ?_
      rintro _ _ ⟨e1, e2⟩
      rw [e1, e2]
      show ro_w X _ 120 _ 120 [(4, .int (xg_120_83 lp_N (xm_128 M) (0 : Int32) v3 v2 c1).1), (3, .int v3), (2, .int v2), (0, .ref 62), (1, .ref c1)] [] (xm_133 (xg_120_83 lp_N (xm_128 M) (0 : Int32) v3 v2 c1).2) (0, 0)
      refine rs_iinc (v := (v3 + (1 : Int32))) (lv2 := [(3, .int (v3 + (1 : Int32))), (4, .int (xg_120_83 lp_N (xm_128 M) (0 : Int32) v3 v2 c1).1), (2, .int v2), (0, .ref 62), (1, .ref c1)]) ri_120_120 rfl rfl rfl rm_120.1 (by decide) rfl ?_
      refine rs_goto (t := 71) ri_120_123 rfl ?_
      have e : xg_120_71 (n + 1) M v3 v2 c1 = xg_120_71 n (xm_133 (xg_120_83 lp_N (xm_128 M) (0 : Int32) v3 v2 c1).2) (v3 + (1 : Int32)) v2 c1 := by rw [xg_120_71]; first | (simp only [if_neg h9]; done) | rfl
      rw [e] at hk
      exact ro_w_lv (ro_sub_c rfl (ro_sub_c rfl (ro_sub_c rfl (ro_sub_c rfl (ro_sub_n rfl))))) (ih (xl_133 (xl_120_83 lp_N (xl_128 hL q9) hc1 q13)) hc1 hp hk)
set_option maxHeartbeats 2000000 in
theorem xl_120_71 : ∀ (n : Nat) {M : ro_Mm} {v3 : Int32} {v2 : Int32} {c1 : Nat} (hL : ro_lw M) (hc1 : ro_is c1) (hp : xq_120_71 n M v3 v2 c1), ro_lw (xg_120_71 n M v3 v2 c1).2 := by
  intro n
  induction n with
  | zero => intro M v3 v2 c1 hL hc1 hp; exact False.elim hp
  | succ n ih =>
    intro M v3 v2 c1 hL hc1 hp
    rw [xq_120_71] at hp
    rw [xg_120_71]
    by_cases h9 : v2 ≤ v3
    · have hp := hp.1 h9
      rw [if_pos h9]
      exact hL
    · have hp := hp.2 h9
      rw [if_neg h9]
      obtain ⟨q9, hp⟩ := hp
      obtain ⟨q13, hp⟩ := hp
      exact ih (xl_133 (xl_120_83 lp_N (xl_128 hL q9) hc1 q13)) hc1 hp
/-- RefusedOnce$Ways.find(LRefusedOnce$Shelf;)V -/
noncomputable def xm_120 (M : ro_Mm) (c1 : Nat) : ro_Mm := (if (xf_122 (ro_sI M (lft M) 4 (0 : Int32)) (ro_min (xf_121 (ro_sI M (lft M) 4 (0 : Int32))) (20 : Int32)) c1) then (xg_120_71 lp_N (xm_133 (xm_131 (xm_128 (xg_120_35 lp_N (xm_122 (ro_sI M (lft M) 4 (0 : Int32)) (ro_min (xf_121 (ro_sI M (lft M) 4 (0 : Int32))) (20 : Int32)) c1) ((ro_min (xf_121 (ro_sI M (lft M) 4 (0 : Int32))) (20 : Int32)) - (1 : Int32)) (ro_min (xf_121 (ro_sI M (lft M) 4 (0 : Int32))) (20 : Int32)) c1).2) (xf_129 (xm_128 (xg_120_35 lp_N (xm_122 (ro_sI M (lft M) 4 (0 : Int32)) (ro_min (xf_121 (ro_sI M (lft M) 4 (0 : Int32))) (20 : Int32)) c1) ((ro_min (xf_121 (ro_sI M (lft M) 4 (0 : Int32))) (20 : Int32)) - (1 : Int32)) (ro_min (xf_121 (ro_sI M (lft M) 4 (0 : Int32))) (20 : Int32)) c1).2)) (1 : Int32) (0 : Int32) (0 : Int32))) (0 : Int32) (ro_min (xf_121 (ro_sI M (lft M) 4 (0 : Int32))) (20 : Int32)) c1).2 else (xm_122 (ro_sI M (lft M) 4 (0 : Int32)) (ro_min (xf_121 (ro_sI M (lft M) 4 (0 : Int32))) (20 : Int32)) c1))
def xp_120 (M : ro_Mm) (c1 : Nat) : Prop := (xp_122 (ro_sI M (lft M) 4 (0 : Int32)) (ro_min (xf_121 (ro_sI M (lft M) 4 (0 : Int32))) (20 : Int32)) c1 ∧ (((xf_122 (ro_sI M (lft M) 4 (0 : Int32)) (ro_min (xf_121 (ro_sI M (lft M) 4 (0 : Int32))) (20 : Int32)) c1) → (xq_120_35 lp_N (xm_122 (ro_sI M (lft M) 4 (0 : Int32)) (ro_min (xf_121 (ro_sI M (lft M) 4 (0 : Int32))) (20 : Int32)) c1) ((ro_min (xf_121 (ro_sI M (lft M) 4 (0 : Int32))) (20 : Int32)) - (1 : Int32)) (ro_min (xf_121 (ro_sI M (lft M) 4 (0 : Int32))) (20 : Int32)) c1 ∧ (xp_128 (xg_120_35 lp_N (xm_122 (ro_sI M (lft M) 4 (0 : Int32)) (ro_min (xf_121 (ro_sI M (lft M) 4 (0 : Int32))) (20 : Int32)) c1) ((ro_min (xf_121 (ro_sI M (lft M) 4 (0 : Int32))) (20 : Int32)) - (1 : Int32)) (ro_min (xf_121 (ro_sI M (lft M) 4 (0 : Int32))) (20 : Int32)) c1).2 ∧ (xp_129 (xm_128 (xg_120_35 lp_N (xm_122 (ro_sI M (lft M) 4 (0 : Int32)) (ro_min (xf_121 (ro_sI M (lft M) 4 (0 : Int32))) (20 : Int32)) c1) ((ro_min (xf_121 (ro_sI M (lft M) 4 (0 : Int32))) (20 : Int32)) - (1 : Int32)) (ro_min (xf_121 (ro_sI M (lft M) 4 (0 : Int32))) (20 : Int32)) c1).2) ∧ (xp_131 (xm_128 (xg_120_35 lp_N (xm_122 (ro_sI M (lft M) 4 (0 : Int32)) (ro_min (xf_121 (ro_sI M (lft M) 4 (0 : Int32))) (20 : Int32)) c1) ((ro_min (xf_121 (ro_sI M (lft M) 4 (0 : Int32))) (20 : Int32)) - (1 : Int32)) (ro_min (xf_121 (ro_sI M (lft M) 4 (0 : Int32))) (20 : Int32)) c1).2) (xf_129 (xm_128 (xg_120_35 lp_N (xm_122 (ro_sI M (lft M) 4 (0 : Int32)) (ro_min (xf_121 (ro_sI M (lft M) 4 (0 : Int32))) (20 : Int32)) c1) ((ro_min (xf_121 (ro_sI M (lft M) 4 (0 : Int32))) (20 : Int32)) - (1 : Int32)) (ro_min (xf_121 (ro_sI M (lft M) 4 (0 : Int32))) (20 : Int32)) c1).2)) (1 : Int32) (0 : Int32) (0 : Int32) ∧ (xq_120_71 lp_N (xm_133 (xm_131 (xm_128 (xg_120_35 lp_N (xm_122 (ro_sI M (lft M) 4 (0 : Int32)) (ro_min (xf_121 (ro_sI M (lft M) 4 (0 : Int32))) (20 : Int32)) c1) ((ro_min (xf_121 (ro_sI M (lft M) 4 (0 : Int32))) (20 : Int32)) - (1 : Int32)) (ro_min (xf_121 (ro_sI M (lft M) 4 (0 : Int32))) (20 : Int32)) c1).2) (xf_129 (xm_128 (xg_120_35 lp_N (xm_122 (ro_sI M (lft M) 4 (0 : Int32)) (ro_min (xf_121 (ro_sI M (lft M) 4 (0 : Int32))) (20 : Int32)) c1) ((ro_min (xf_121 (ro_sI M (lft M) 4 (0 : Int32))) (20 : Int32)) - (1 : Int32)) (ro_min (xf_121 (ro_sI M (lft M) 4 (0 : Int32))) (20 : Int32)) c1).2)) (1 : Int32) (0 : Int32) (0 : Int32))) (0 : Int32) (ro_min (xf_121 (ro_sI M (lft M) 4 (0 : Int32))) (20 : Int32)) c1 ∧ True)))))) ∧ (¬ ((xf_122 (ro_sI M (lft M) 4 (0 : Int32)) (ro_min (xf_121 (ro_sI M (lft M) 4 (0 : Int32))) (20 : Int32)) c1)) → True)))
set_option maxHeartbeats 2000000 in
theorem xs_120 {X : ro_Sx} {M : ro_Mm} {c1 : Nat} (hL : ro_lw M) (hc1 : ro_is c1) (hp : xp_120 M c1) : ro_cwp X 4 120 [.ref 62, .ref c1] M (fun v M2 => v = none ∧ M2 = xm_120 M c1) := by
  refine rs_begin (lv0 := [(0, .ref 62), (1, .ref c1)]) (by decide) rfl (by rw [rm_120.1]; exact Nat.le_of_ble_eq_true rfl) rfl ?_
  unfold xp_120 at hp
  refine rs_aload_n ri_120_0 rfl rfl ?_
  refine rs_gf (v := .ref (lft M)) ri_120_1 rfl (by decide) (ro_kf (kd_62 hL.1)) rfl (gf_lv8 (lft_r hL)) ?_
  refine rs_iconst (v := (0 : Int32)) ri_120_4 rfl (by decide) ?_
  refine rs_pf (M2 := (ro_sI M (lft M) 4 (0 : Int32))) ri_120_5 rfl (ro_il4 (lft_il hL)) (ro_kf (il_kd hL.1 (lft_il hL))) (fun h => absurd h (by decide)) (fun f h => h) ?_
  refine rs_aload_n ri_120_8 rfl rfl ?_
  refine rs_gf (v := .ref 35) ri_120_9 rfl (by decide) (ro_kf (kd_62 (sI_lw hL).1)) rfl (rf_62_1 (sI_lw hL).1) ?_
  refine rs_virt (As := []) (r := []) ri_120_12 rfl (by decide) rm_121.2.2.2 rm_121.2.2.1 rfl rfl rfl (by decide) (ro_kf (kd_35 (sI_lw hL).1)) (Nat.le_of_ble_eq_true rfl) (by decide) (by decide) (xs_121 (X := X) (sI_lw hL).1) ?_
  rintro _ _ ⟨e1, e2⟩
  rw [e1, e2]
  show ro_w X _ 120 _ 15 [(0, .ref 62), (1, .ref c1)] [.int (xf_121 (ro_sI M (lft M) 4 (0 : Int32)))] (ro_sI M (lft M) 4 (0 : Int32)) (0, 0)
  refine rs_bipush (v := (20 : Int32)) ri_120_15 rfl (by decide) ?_
  refine rs_min (r := (ro_min (xf_121 (ro_sI M (lft M) 4 (0 : Int32))) (20 : Int32))) ri_120_17 rfl (Nat.le_of_ble_eq_true rfl) rfl ?_
  refine rs_istore_n (lv2 := [(2, .int (ro_min (xf_121 (ro_sI M (lft M) 4 (0 : Int32))) (20 : Int32))), (0, .ref 62), (1, .ref c1)]) ri_120_20 rfl rm_120.1 (by decide) rfl ?_
  refine rs_aload_n ri_120_21 rfl rfl ?_
  refine rs_iload_n ri_120_22 rfl rfl ?_
  refine rs_aload_n ri_120_23 rfl rfl ?_
  obtain ⟨q0, hp⟩ := hp
  refine rs_virt (As := [.int (ro_min (xf_121 (ro_sI M (lft M) 4 (0 : Int32))) (20 : Int32)), .ref c1]) (r := []) ri_120_24 rfl (by decide) rm_122.2.2.2 rm_122.2.2.1 rfl rfl rfl (by decide) (ro_kf (kd_62 (sI_lw hL).1)) (Nat.le_of_ble_eq_true rfl) (by decide) (by decide) (xs_122 (X := X) (sI_lw hL) hc1 q0) ?_
  rintro _ _ ⟨e1, e2⟩
  rw [e1, e2]
  show ro_w X _ 120 _ 27 [(2, .int (ro_min (xf_121 (ro_sI M (lft M) 4 (0 : Int32))) (20 : Int32))), (0, .ref 62), (1, .ref c1)] [.int (ro_b (xf_122 (ro_sI M (lft M) 4 (0 : Int32)) (ro_min (xf_121 (ro_sI M (lft M) 4 (0 : Int32))) (20 : Int32)) c1))] (xm_122 (ro_sI M (lft M) 4 (0 : Int32)) (ro_min (xf_121 (ro_sI M (lft M) 4 (0 : Int32))) (20 : Int32)) c1) (0, 0)
  refine rs_ifne_c (t := 31) ri_120_27 rfl rfl (fun h2 => ?_) (fun h2 => ?_)
  · have hp := hp.1 h2
    refine rs_iload_n ri_120_31 rfl rfl ?_
    refine rs_iconst (v := (1 : Int32)) ri_120_32 rfl (by decide) ?_
    refine rs_isub (r := ((ro_min (xf_121 (ro_sI M (lft M) 4 (0 : Int32))) (20 : Int32)) - (1 : Int32))) ri_120_33 rfl rfl ?_
    refine rs_istore_n (lv2 := [(3, .int ((ro_min (xf_121 (ro_sI M (lft M) 4 (0 : Int32))) (20 : Int32)) - (1 : Int32))), (2, .int (ro_min (xf_121 (ro_sI M (lft M) 4 (0 : Int32))) (20 : Int32))), (0, .ref 62), (1, .ref c1)]) ri_120_34 rfl rm_120.1 (by decide) rfl ?_
    obtain ⟨q4, hp⟩ := hp
    refine xt_120_35 lp_N (xl_122 (sI_lw hL) hc1 q0) hc1 q4 ?_
    refine rs_aload_n ri_120_50 rfl rfl ?_
    obtain ⟨q5, hp⟩ := hp
    refine rs_virt (As := []) (r := []) ri_120_51 rfl (by decide) rm_128.2.2.2 rm_128.2.2.1 rfl rfl rfl (by decide) (ro_kf (kd_62 (xl_120_35 lp_N (xl_122 (sI_lw hL) hc1 q0) hc1 q4).1)) (Nat.le_of_ble_eq_true rfl) (by decide) (by decide) (xs_128 (X := X) (xl_120_35 lp_N (xl_122 (sI_lw hL) hc1 q0) hc1 q4) q5) ?_
    rintro _ _ ⟨e1, e2⟩
    rw [e1, e2]
    show ro_w X _ 120 _ 54 [(3, .int (xg_120_35 lp_N (xm_122 (ro_sI M (lft M) 4 (0 : Int32)) (ro_min (xf_121 (ro_sI M (lft M) 4 (0 : Int32))) (20 : Int32)) c1) ((ro_min (xf_121 (ro_sI M (lft M) 4 (0 : Int32))) (20 : Int32)) - (1 : Int32)) (ro_min (xf_121 (ro_sI M (lft M) 4 (0 : Int32))) (20 : Int32)) c1).1), (2, .int (ro_min (xf_121 (ro_sI M (lft M) 4 (0 : Int32))) (20 : Int32))), (0, .ref 62), (1, .ref c1)] [] (xm_128 (xg_120_35 lp_N (xm_122 (ro_sI M (lft M) 4 (0 : Int32)) (ro_min (xf_121 (ro_sI M (lft M) 4 (0 : Int32))) (20 : Int32)) c1) ((ro_min (xf_121 (ro_sI M (lft M) 4 (0 : Int32))) (20 : Int32)) - (1 : Int32)) (ro_min (xf_121 (ro_sI M (lft M) 4 (0 : Int32))) (20 : Int32)) c1).2) (0, 0)
    refine rs_aload_n ri_120_54 rfl rfl ?_
    refine rs_aload_n ri_120_55 rfl rfl ?_
    obtain ⟨q6, hp⟩ := hp
    refine rs_virt (As := []) (r := [.ref 62]) ri_120_56 rfl (by decide) rm_129.2.2.2 rm_129.2.2.1 rfl rfl rfl (by decide) (ro_kf (kd_62 (xl_128 (xl_120_35 lp_N (xl_122 (sI_lw hL) hc1 q0) hc1 q4) q5).1)) (Nat.le_of_ble_eq_true rfl) (by decide) (by decide) (xs_129 (X := X) (xl_128 (xl_120_35 lp_N (xl_122 (sI_lw hL) hc1 q0) hc1 q4) q5) q6) ?_
    rintro _ _ ⟨e1, e2⟩
    rw [e1, e2]
    show ro_w X _ 120 _ 59 [(3, .int (xg_120_35 lp_N (xm_122 (ro_sI M (lft M) 4 (0 : Int32)) (ro_min (xf_121 (ro_sI M (lft M) 4 (0 : Int32))) (20 : Int32)) c1) ((ro_min (xf_121 (ro_sI M (lft M) 4 (0 : Int32))) (20 : Int32)) - (1 : Int32)) (ro_min (xf_121 (ro_sI M (lft M) 4 (0 : Int32))) (20 : Int32)) c1).1), (2, .int (ro_min (xf_121 (ro_sI M (lft M) 4 (0 : Int32))) (20 : Int32))), (0, .ref 62), (1, .ref c1)] [.long (xf_129 (xm_128 (xg_120_35 lp_N (xm_122 (ro_sI M (lft M) 4 (0 : Int32)) (ro_min (xf_121 (ro_sI M (lft M) 4 (0 : Int32))) (20 : Int32)) c1) ((ro_min (xf_121 (ro_sI M (lft M) 4 (0 : Int32))) (20 : Int32)) - (1 : Int32)) (ro_min (xf_121 (ro_sI M (lft M) 4 (0 : Int32))) (20 : Int32)) c1).2)), .ref 62] (xm_128 (xg_120_35 lp_N (xm_122 (ro_sI M (lft M) 4 (0 : Int32)) (ro_min (xf_121 (ro_sI M (lft M) 4 (0 : Int32))) (20 : Int32)) c1) ((ro_min (xf_121 (ro_sI M (lft M) 4 (0 : Int32))) (20 : Int32)) - (1 : Int32)) (ro_min (xf_121 (ro_sI M (lft M) 4 (0 : Int32))) (20 : Int32)) c1).2) (0, 0)
    refine rs_iconst (v := (1 : Int32)) ri_120_59 rfl (by decide) ?_
    refine rs_iconst (v := (0 : Int32)) ri_120_60 rfl (by decide) ?_
    refine rs_iconst (v := (0 : Int32)) ri_120_61 rfl (by decide) ?_
    obtain ⟨q7, hp⟩ := hp
    refine rs_virt (As := [.long (xf_129 (xm_128 (xg_120_35 lp_N (xm_122 (ro_sI M (lft M) 4 (0 : Int32)) (ro_min (xf_121 (ro_sI M (lft M) 4 (0 : Int32))) (20 : Int32)) c1) ((ro_min (xf_121 (ro_sI M (lft M) 4 (0 : Int32))) (20 : Int32)) - (1 : Int32)) (ro_min (xf_121 (ro_sI M (lft M) 4 (0 : Int32))) (20 : Int32)) c1).2)), .int (1 : Int32), .int (0 : Int32), .int (0 : Int32)]) (r := []) ri_120_62 rfl (by decide) rm_131.2.2.2 rm_131.2.2.1 rfl rfl rfl (by decide) (ro_kf (kd_62 (xl_128 (xl_120_35 lp_N (xl_122 (sI_lw hL) hc1 q0) hc1 q4) q5).1)) (Nat.le_of_ble_eq_true rfl) (by decide) (by decide) (xs_131 (X := X) (xl_128 (xl_120_35 lp_N (xl_122 (sI_lw hL) hc1 q0) hc1 q4) q5) q7) ?_
    rintro _ _ ⟨e1, e2⟩
    rw [e1, e2]
    show ro_w X _ 120 _ 65 [(3, .int (xg_120_35 lp_N (xm_122 (ro_sI M (lft M) 4 (0 : Int32)) (ro_min (xf_121 (ro_sI M (lft M) 4 (0 : Int32))) (20 : Int32)) c1) ((ro_min (xf_121 (ro_sI M (lft M) 4 (0 : Int32))) (20 : Int32)) - (1 : Int32)) (ro_min (xf_121 (ro_sI M (lft M) 4 (0 : Int32))) (20 : Int32)) c1).1), (2, .int (ro_min (xf_121 (ro_sI M (lft M) 4 (0 : Int32))) (20 : Int32))), (0, .ref 62), (1, .ref c1)] [] (xm_131 (xm_128 (xg_120_35 lp_N (xm_122 (ro_sI M (lft M) 4 (0 : Int32)) (ro_min (xf_121 (ro_sI M (lft M) 4 (0 : Int32))) (20 : Int32)) c1) ((ro_min (xf_121 (ro_sI M (lft M) 4 (0 : Int32))) (20 : Int32)) - (1 : Int32)) (ro_min (xf_121 (ro_sI M (lft M) 4 (0 : Int32))) (20 : Int32)) c1).2) (xf_129 (xm_128 (xg_120_35 lp_N (xm_122 (ro_sI M (lft M) 4 (0 : Int32)) (ro_min (xf_121 (ro_sI M (lft M) 4 (0 : Int32))) (20 : Int32)) c1) ((ro_min (xf_121 (ro_sI M (lft M) 4 (0 : Int32))) (20 : Int32)) - (1 : Int32)) (ro_min (xf_121 (ro_sI M (lft M) 4 (0 : Int32))) (20 : Int32)) c1).2)) (1 : Int32) (0 : Int32) (0 : Int32)) (0, 0)
    refine rs_aload_n ri_120_65 rfl rfl ?_
    refine rs_virt (As := []) (r := []) ri_120_66 rfl (by decide) rm_133.2.2.2 rm_133.2.2.1 rfl rfl rfl (by decide) (ro_kf (kd_62 (xl_131 (xl_128 (xl_120_35 lp_N (xl_122 (sI_lw hL) hc1 q0) hc1 q4) q5) q7).1)) (Nat.le_of_ble_eq_true rfl) (by decide) (by decide) (xs_133 (X := X) (xl_131 (xl_128 (xl_120_35 lp_N (xl_122 (sI_lw hL) hc1 q0) hc1 q4) q5) q7)) ?_
    rintro _ _ ⟨e1, e2⟩
    rw [e1, e2]
    show ro_w X _ 120 _ 69 [(3, .int (xg_120_35 lp_N (xm_122 (ro_sI M (lft M) 4 (0 : Int32)) (ro_min (xf_121 (ro_sI M (lft M) 4 (0 : Int32))) (20 : Int32)) c1) ((ro_min (xf_121 (ro_sI M (lft M) 4 (0 : Int32))) (20 : Int32)) - (1 : Int32)) (ro_min (xf_121 (ro_sI M (lft M) 4 (0 : Int32))) (20 : Int32)) c1).1), (2, .int (ro_min (xf_121 (ro_sI M (lft M) 4 (0 : Int32))) (20 : Int32))), (0, .ref 62), (1, .ref c1)] [] (xm_133 (xm_131 (xm_128 (xg_120_35 lp_N (xm_122 (ro_sI M (lft M) 4 (0 : Int32)) (ro_min (xf_121 (ro_sI M (lft M) 4 (0 : Int32))) (20 : Int32)) c1) ((ro_min (xf_121 (ro_sI M (lft M) 4 (0 : Int32))) (20 : Int32)) - (1 : Int32)) (ro_min (xf_121 (ro_sI M (lft M) 4 (0 : Int32))) (20 : Int32)) c1).2) (xf_129 (xm_128 (xg_120_35 lp_N (xm_122 (ro_sI M (lft M) 4 (0 : Int32)) (ro_min (xf_121 (ro_sI M (lft M) 4 (0 : Int32))) (20 : Int32)) c1) ((ro_min (xf_121 (ro_sI M (lft M) 4 (0 : Int32))) (20 : Int32)) - (1 : Int32)) (ro_min (xf_121 (ro_sI M (lft M) 4 (0 : Int32))) (20 : Int32)) c1).2)) (1 : Int32) (0 : Int32) (0 : Int32))) (0, 0)
    refine rs_iconst (v := (0 : Int32)) ri_120_69 rfl (by decide) ?_
    refine rs_istore_n (lv2 := [(3, .int (0 : Int32)), (2, .int (ro_min (xf_121 (ro_sI M (lft M) 4 (0 : Int32))) (20 : Int32))), (0, .ref 62), (1, .ref c1)]) ri_120_70 rfl rm_120.1 (by decide) rfl ?_
    obtain ⟨q14, hp⟩ := hp
    refine xt_120_71 lp_N (xl_133 (xl_131 (xl_128 (xl_120_35 lp_N (xl_122 (sI_lw hL) hc1 q0) hc1 q4) q5) q7)) hc1 q14 ?_
    refine rs_ret ri_120_126 rm_120.2.1 (by decide) ?_
    exact ⟨by rfl, by unfold xm_120; first | (simp only [if_pos h2]; done) | rfl⟩
  · have hp := hp.2 h2
    refine rs_ret ri_120_30 rm_120.2.1 (by decide) ?_
    exact ⟨by rfl, by unfold xm_120; first | (simp only [if_neg h2]; done) | rfl⟩
set_option maxHeartbeats 2000000 in
theorem xl_120 {M : ro_Mm} {c1 : Nat} (hL : ro_lw M) (hc1 : ro_is c1) (hp : xp_120 M c1) : ro_lw (xm_120 M c1) := by
  unfold xp_120 at hp
  unfold xm_120
  obtain ⟨q0, hp⟩ := hp
  by_cases h2 : (xf_122 (ro_sI M (lft M) 4 (0 : Int32)) (ro_min (xf_121 (ro_sI M (lft M) 4 (0 : Int32))) (20 : Int32)) c1)
  · have hp := hp.1 h2
    rw [if_pos h2]
    obtain ⟨q4, hp⟩ := hp
    obtain ⟨q5, hp⟩ := hp
    obtain ⟨q6, hp⟩ := hp
    obtain ⟨q7, hp⟩ := hp
    obtain ⟨q14, hp⟩ := hp
    exact (xl_120_71 lp_N (xl_133 (xl_131 (xl_128 (xl_120_35 lp_N (xl_122 (sI_lw hL) hc1 q0) hc1 q4) q5) q7)) hc1 q14)
  · have hp := hp.2 h2
    rw [if_neg h2]
    exact (xl_122 (sI_lw hL) hc1 q0)
/-- RefusedOnce.behind(III)I -/
noncomputable def xf_119 (M : ro_Mm) (v1 : Int32) (v2 : Int32) (v3 : Int32) : Int32 := (if ro_bs v1 then (if ro_bs v2 then (if (xf_13 M v3 (0 : Int32) (3 : Int32)) then (if (xf_22 M (ro_sc v1)) then (if (xf_22 M (ro_sc v2)) then (if v3 = (0 : Int32) then (xf_136 (xm_120 (xm_66 M (ro_sc v1)) (ro_sc v2))) else (if v3 = (3 : Int32) then (xf_137 (xm_120 (xm_66 M (ro_sc v1)) (ro_sc v2))) else (if (xf_136 (xm_120 (xm_66 M (ro_sc v1)) (ro_sc v2))) = (0 : Int32) then (-2 : Int32) else (if v3 = (1 : Int32) then (xf_138 (xm_120 (xm_66 M (ro_sc v1)) (ro_sc v2))) else (xf_139 (xm_120 (xm_66 M (ro_sc v1)) (ro_sc v2))))))) else (xf_65 M (ro_sc v2))) else (xf_65 M (ro_sc v1))) else (-1 : Int32)) else (-1 : Int32)) else (-1 : Int32))
noncomputable def xm_119 (M : ro_Mm) (v1 : Int32) (v2 : Int32) (v3 : Int32) : ro_Mm := (if ro_bs v1 then (if ro_bs v2 then (if (xf_13 M v3 (0 : Int32) (3 : Int32)) then (if (xf_22 M (ro_sc v1)) then (if (xf_22 M (ro_sc v2)) then (xm_120 (xm_66 M (ro_sc v1)) (ro_sc v2)) else M) else M) else M) else M) else M)
def xp_119 (M : ro_Mm) (v1 : Int32) (v2 : Int32) (v3 : Int32) : Prop := ((ro_bs v1 → ((ro_bs v2 → (((xf_13 M v3 (0 : Int32) (3 : Int32)) → (((xf_22 M (ro_sc v1)) → (((xf_22 M (ro_sc v2)) → (xp_66 M (ro_sc v1) ∧ (xp_120 (xm_66 M (ro_sc v1)) (ro_sc v2) ∧ True))) ∧ (¬ ((xf_22 M (ro_sc v2))) → True))) ∧ (¬ ((xf_22 M (ro_sc v1))) → True))) ∧ (¬ ((xf_13 M v3 (0 : Int32) (3 : Int32))) → True))) ∧ (¬ (ro_bs v2) → True))) ∧ (¬ (ro_bs v1) → True))
set_option maxHeartbeats 2000000 in
theorem xs_119 {X : ro_Sx} {M : ro_Mm} {v1 : Int32} {v2 : Int32} {v3 : Int32} (hL : ro_lw M) (hp : xp_119 M v1 v2 v3) : ro_cwp X 5 119 [.ref 4, .int v1, .int v2, .int v3] M (fun v M2 => v = some (.int (xf_119 M v1 v2 v3)) ∧ M2 = xm_119 M v1 v2 v3) := by
  refine rs_begin (lv0 := [(0, .ref 4), (1, .int v1), (2, .int v2), (3, .int v3)]) (by decide) rfl (by rw [rm_119.1]; exact Nat.le_of_ble_eq_true rfl) rfl ?_
  unfold xp_119 at hp
  refine rs_aload_n ri_119_0 rfl rfl ?_
  refine rs_iload_n ri_119_1 rfl rfl ?_
  by_cases h1 : ro_bs v1 = true
  · have hp := hp.1 h1
    refine rs_virt (As := [.int v1]) (r := []) ri_119_2 rfl (by decide) rm_20.2.2.2 rm_20.2.2.1 rfl rfl rfl (by decide) (ro_kf (kd_4 hL.1)) (Nat.le_of_ble_eq_true rfl) (by decide) (by decide) (xs_20_t hL.1 h1) ?_
    rintro _ _ ⟨e1, e2⟩
    rw [e1, e2]
    show ro_w X _ 119 _ 5 [(0, .ref 4), (1, .int v1), (2, .int v2), (3, .int v3)] [.ref (ro_sc v1)] M (0, 0)
    refine rs_astore (lv2 := [(4, .ref (ro_sc v1)), (0, .ref 4), (1, .int v1), (2, .int v2), (3, .int v3)]) ri_119_5 rfl rm_119.1 (by decide) rfl ?_
    refine rs_aload_n ri_119_7 rfl rfl ?_
    refine rs_iload_n ri_119_8 rfl rfl ?_
    by_cases h2 : ro_bs v2 = true
    · have hp := hp.1 h2
      refine rs_virt (As := [.int v2]) (r := []) ri_119_9 rfl (by decide) rm_20.2.2.2 rm_20.2.2.1 rfl rfl rfl (by decide) (ro_kf (kd_4 hL.1)) (Nat.le_of_ble_eq_true rfl) (by decide) (by decide) (xs_20_t hL.1 h2) ?_
      rintro _ _ ⟨e1, e2⟩
      rw [e1, e2]
      show ro_w X _ 119 _ 12 [(4, .ref (ro_sc v1)), (0, .ref 4), (1, .int v1), (2, .int v2), (3, .int v3)] [.ref (ro_sc v2)] M (0, 0)
      refine rs_astore (lv2 := [(5, .ref (ro_sc v2)), (4, .ref (ro_sc v1)), (0, .ref 4), (1, .int v1), (2, .int v2), (3, .int v3)]) ri_119_12 rfl rm_119.1 (by decide) rfl ?_
      refine rs_aload ri_119_14 rfl rfl ?_
      refine rs_ifnull (t := 33) ri_119_16 rfl rfl ?_
      refine rs_aload ri_119_19 rfl rfl ?_
      refine rs_ifnull (t := 33) ri_119_21 rfl rfl ?_
      refine rs_iload_n ri_119_24 rfl rfl ?_
      refine rs_iconst (v := (0 : Int32)) ri_119_25 rfl (by decide) ?_
      refine rs_iconst (v := (3 : Int32)) ri_119_26 rfl (by decide) ?_
      refine rs_stat (As := [.int v3, .int (0 : Int32), .int (3 : Int32)]) (r := []) ri_119_27 rfl rm_13.2.2.2 rfl rfl rfl (Nat.le_of_ble_eq_true rfl) (by decide) (by decide) (xs_13 (X := X) hL.1) ?_
      rintro _ _ ⟨e1, e2⟩
      rw [e1, e2]
      show ro_w X _ 119 _ 30 [(5, .ref (ro_sc v2)), (4, .ref (ro_sc v1)), (0, .ref 4), (1, .int v1), (2, .int v2), (3, .int v3)] [.int (ro_b (xf_13 M v3 (0 : Int32) (3 : Int32)))] M (0, 0)
      refine rs_ifne_c (t := 35) ri_119_30 rfl rfl (fun h3 => ?_) (fun h3 => ?_)
      · have hp := hp.1 h3
        refine rs_aload ri_119_35 rfl rfl ?_
        refine rs_virt (As := []) (r := []) ri_119_37 rfl (by decide) rm_22.2.2.2 rm_22.2.2.1 rfl rfl rfl (ro_is4 (ro_sc_is v1)) (ro_kf (is_kd hL.1 (ro_sc_is v1))) (Nat.le_of_ble_eq_true rfl) (by decide) (by decide) (xs_22 (X := X) hL.1 (ro_sc_is v1)) ?_
        rintro _ _ ⟨e1, e2⟩
        rw [e1, e2]
        show ro_w X _ 119 _ 40 [(5, .ref (ro_sc v2)), (4, .ref (ro_sc v1)), (0, .ref 4), (1, .int v1), (2, .int v2), (3, .int v3)] [.int (ro_b (xf_22 M (ro_sc v1)))] M (0, 0)
        refine rs_ifne_c (t := 49) ri_119_40 rfl rfl (fun h4 => ?_) (fun h4 => ?_)
        · have hp := hp.1 h4
          refine rs_aload ri_119_49 rfl rfl ?_
          refine rs_virt (As := []) (r := []) ri_119_51 rfl (by decide) rm_22.2.2.2 rm_22.2.2.1 rfl rfl rfl (ro_is4 (ro_sc_is v2)) (ro_kf (is_kd hL.1 (ro_sc_is v2))) (Nat.le_of_ble_eq_true rfl) (by decide) (by decide) (xs_22 (X := X) hL.1 (ro_sc_is v2)) ?_
          rintro _ _ ⟨e1, e2⟩
          rw [e1, e2]
          show ro_w X _ 119 _ 54 [(5, .ref (ro_sc v2)), (4, .ref (ro_sc v1)), (0, .ref 4), (1, .int v1), (2, .int v2), (3, .int v3)] [.int (ro_b (xf_22 M (ro_sc v2)))] M (0, 0)
          refine rs_ifne_c (t := 63) ri_119_54 rfl rfl (fun h5 => ?_) (fun h5 => ?_)
          · have hp := hp.1 h5
            refine rs_aload_n ri_119_63 rfl rfl ?_
            refine rs_gf (v := .ref 35) ri_119_64 rfl (by decide) (ro_kf (kd_4 hL.1)) rfl (rf_4_3 hL.1) ?_
            refine rs_aload ri_119_67 rfl rfl ?_
            obtain ⟨q5, hp⟩ := hp
            refine rs_virt (As := [.ref (ro_sc v1)]) (r := []) ri_119_69 rfl (by decide) rm_66.2.2.2 rm_66.2.2.1 rfl rfl rfl (by decide) (ro_kf (kd_35 hL.1)) (Nat.le_of_ble_eq_true rfl) (by decide) (by decide) (xs_66 (X := X) hL.1 (ro_sc_is v1) q5) ?_
            rintro _ _ ⟨e1, e2⟩
            rw [e1, e2]
            show ro_w X _ 119 _ 72 [(5, .ref (ro_sc v2)), (4, .ref (ro_sc v1)), (0, .ref 4), (1, .int v1), (2, .int v2), (3, .int v3)] [] (xm_66 M (ro_sc v1)) (0, 0)
            refine rs_aload_n ri_119_72 rfl rfl ?_
            refine rs_gf (v := .ref 62) ri_119_73 rfl (by decide) (ro_kf (kd_4 (xlw_66 hL (ro_sc_is v1) q5).1)) rfl (rf_4_8 (xlw_66 hL (ro_sc_is v1) q5).1) ?_
            refine rs_aload ri_119_76 rfl rfl ?_
            obtain ⟨q6, hp⟩ := hp
            refine rs_virt (As := [.ref (ro_sc v2)]) (r := []) ri_119_78 rfl (by decide) rm_120.2.2.2 rm_120.2.2.1 rfl rfl rfl (by decide) (ro_kf (kd_62 (xlw_66 hL (ro_sc_is v1) q5).1)) (Nat.le_of_ble_eq_true rfl) (by decide) (by decide) (xs_120 (X := X) (xlw_66 hL (ro_sc_is v1) q5) (ro_sc_is v2) q6) ?_
            rintro _ _ ⟨e1, e2⟩
            rw [e1, e2]
            show ro_w X _ 119 _ 81 [(5, .ref (ro_sc v2)), (4, .ref (ro_sc v1)), (0, .ref 4), (1, .int v1), (2, .int v2), (3, .int v3)] [] (xm_120 (xm_66 M (ro_sc v1)) (ro_sc v2)) (0, 0)
            refine rs_iload_n ri_119_81 rfl rfl ?_
            refine rs_if_ne (t := 93) ri_119_82 rfl rfl (fun h8 => ?_) (fun h8 => ?_)
            · skip
              refine rs_iload_n ri_119_93 rfl rfl ?_
              refine rs_iconst (v := (3 : Int32)) ri_119_94 rfl (by decide) ?_
              refine rs_icmp_ne (t := 106) ri_119_95 rfl rfl (fun h9 => ?_) (fun h9 => ?_)
              · skip
                refine rs_aload_n ri_119_106 rfl rfl ?_
                refine rs_gf (v := .ref 62) ri_119_107 rfl (by decide) (ro_kf (kd_4 (xl_120 (xlw_66 hL (ro_sc_is v1) q5) (ro_sc_is v2) q6).1)) rfl (rf_4_8 (xl_120 (xlw_66 hL (ro_sc_is v1) q5) (ro_sc_is v2) q6).1) ?_
                refine rs_virt (As := []) (r := []) ri_119_110 rfl (by decide) rm_136.2.2.2 rm_136.2.2.1 rfl rfl rfl (by decide) (ro_kf (kd_62 (xl_120 (xlw_66 hL (ro_sc_is v1) q5) (ro_sc_is v2) q6).1)) (Nat.le_of_ble_eq_true rfl) (by decide) (by decide) (xs_136 (X := X) (xl_120 (xlw_66 hL (ro_sc_is v1) q5) (ro_sc_is v2) q6)) ?_
                rintro _ _ ⟨e1, e2⟩
                rw [e1, e2]
                show ro_w X _ 119 _ 113 [(5, .ref (ro_sc v2)), (4, .ref (ro_sc v1)), (0, .ref 4), (1, .int v1), (2, .int v2), (3, .int v3)] [.int (xf_136 (xm_120 (xm_66 M (ro_sc v1)) (ro_sc v2)))] (xm_120 (xm_66 M (ro_sc v1)) (ro_sc v2)) (0, 0)
                refine rs_if_ne (t := 119) ri_119_113 rfl rfl (fun h10 => ?_) (fun h10 => ?_)
                · skip
                  refine rs_iload_n ri_119_119 rfl rfl ?_
                  refine rs_iconst (v := (1 : Int32)) ri_119_120 rfl (by decide) ?_
                  refine rs_icmp_ne (t := 134) ri_119_121 rfl rfl (fun h11 => ?_) (fun h11 => ?_)
                  · skip
                    refine rs_aload_n ri_119_134 rfl rfl ?_
                    refine rs_gf (v := .ref 62) ri_119_135 rfl (by decide) (ro_kf (kd_4 (xl_120 (xlw_66 hL (ro_sc_is v1) q5) (ro_sc_is v2) q6).1)) rfl (rf_4_8 (xl_120 (xlw_66 hL (ro_sc_is v1) q5) (ro_sc_is v2) q6).1) ?_
                    refine rs_virt (As := []) (r := []) ri_119_138 rfl (by decide) rm_139.2.2.2 rm_139.2.2.1 rfl rfl rfl (by decide) (ro_kf (kd_62 (xl_120 (xlw_66 hL (ro_sc_is v1) q5) (ro_sc_is v2) q6).1)) (Nat.le_of_ble_eq_true rfl) (by decide) (by decide) (xs_139 (X := X) (xl_120 (xlw_66 hL (ro_sc_is v1) q5) (ro_sc_is v2) q6)) ?_
                    rintro _ _ ⟨e1, e2⟩
                    rw [e1, e2]
                    show ro_w X _ 119 _ 141 [(5, .ref (ro_sc v2)), (4, .ref (ro_sc v1)), (0, .ref 4), (1, .int v1), (2, .int v2), (3, .int v3)] [.int (xf_139 (xm_120 (xm_66 M (ro_sc v1)) (ro_sc v2)))] (xm_120 (xm_66 M (ro_sc v1)) (ro_sc v2)) (0, 0)
                    refine rs_iret ri_119_141 rm_119.2.1 (by decide) ?_
                    exact ⟨by unfold xf_119; first | (simp only [if_pos h1, if_pos h2, if_pos h3, if_pos h4, if_pos h5, if_neg h8, if_neg h9, if_neg h10, if_neg h11]; done) | rfl, by unfold xm_119; first | (simp only [if_pos h1, if_pos h2, if_pos h3, if_pos h4, if_pos h5, if_neg h8, if_neg h9, if_neg h10, if_neg h11]; done) | rfl⟩
                  · skip
                    refine rs_aload_n ri_119_124 rfl rfl ?_
                    refine rs_gf (v := .ref 62) ri_119_125 rfl (by decide) (ro_kf (kd_4 (xl_120 (xlw_66 hL (ro_sc_is v1) q5) (ro_sc_is v2) q6).1)) rfl (rf_4_8 (xl_120 (xlw_66 hL (ro_sc_is v1) q5) (ro_sc_is v2) q6).1) ?_
                    refine rs_virt (As := []) (r := []) ri_119_128 rfl (by decide) rm_138.2.2.2 rm_138.2.2.1 rfl rfl rfl (by decide) (ro_kf (kd_62 (xl_120 (xlw_66 hL (ro_sc_is v1) q5) (ro_sc_is v2) q6).1)) (Nat.le_of_ble_eq_true rfl) (by decide) (by decide) (xs_138 (X := X) (xl_120 (xlw_66 hL (ro_sc_is v1) q5) (ro_sc_is v2) q6)) ?_
                    rintro _ _ ⟨e1, e2⟩
                    rw [e1, e2]
                    show ro_w X _ 119 _ 131 [(5, .ref (ro_sc v2)), (4, .ref (ro_sc v1)), (0, .ref 4), (1, .int v1), (2, .int v2), (3, .int v3)] [.int (xf_138 (xm_120 (xm_66 M (ro_sc v1)) (ro_sc v2)))] (xm_120 (xm_66 M (ro_sc v1)) (ro_sc v2)) (0, 0)
                    refine rs_goto (t := 141) ri_119_131 rfl ?_
                    refine rs_iret ri_119_141 rm_119.2.1 (by decide) ?_
                    exact ⟨by unfold xf_119; first | (simp only [if_pos h1, if_pos h2, if_pos h3, if_pos h4, if_pos h5, if_neg h8, if_neg h9, if_neg h10, if_pos h11]; done) | rfl, by unfold xm_119; first | (simp only [if_pos h1, if_pos h2, if_pos h3, if_pos h4, if_pos h5, if_neg h8, if_neg h9, if_neg h10, if_pos h11]; done) | rfl⟩
                · skip
                  refine rs_bipush (v := (-2 : Int32)) ri_119_116 rfl (by decide) ?_
                  refine rs_iret ri_119_118 rm_119.2.1 (by decide) ?_
                  exact ⟨by unfold xf_119; first | (simp only [if_pos h1, if_pos h2, if_pos h3, if_pos h4, if_pos h5, if_neg h8, if_neg h9, if_pos h10]; done) | rfl, by unfold xm_119; first | (simp only [if_pos h1, if_pos h2, if_pos h3, if_pos h4, if_pos h5, if_neg h8, if_neg h9, if_pos h10]; done) | rfl⟩
              · skip
                refine rs_aload_n ri_119_98 rfl rfl ?_
                refine rs_gf (v := .ref 62) ri_119_99 rfl (by decide) (ro_kf (kd_4 (xl_120 (xlw_66 hL (ro_sc_is v1) q5) (ro_sc_is v2) q6).1)) rfl (rf_4_8 (xl_120 (xlw_66 hL (ro_sc_is v1) q5) (ro_sc_is v2) q6).1) ?_
                refine rs_virt (As := []) (r := []) ri_119_102 rfl (by decide) rm_137.2.2.2 rm_137.2.2.1 rfl rfl rfl (by decide) (ro_kf (kd_62 (xl_120 (xlw_66 hL (ro_sc_is v1) q5) (ro_sc_is v2) q6).1)) (Nat.le_of_ble_eq_true rfl) (by decide) (by decide) (xs_137 (X := X) (xl_120 (xlw_66 hL (ro_sc_is v1) q5) (ro_sc_is v2) q6)) ?_
                rintro _ _ ⟨e1, e2⟩
                rw [e1, e2]
                show ro_w X _ 119 _ 105 [(5, .ref (ro_sc v2)), (4, .ref (ro_sc v1)), (0, .ref 4), (1, .int v1), (2, .int v2), (3, .int v3)] [.int (xf_137 (xm_120 (xm_66 M (ro_sc v1)) (ro_sc v2)))] (xm_120 (xm_66 M (ro_sc v1)) (ro_sc v2)) (0, 0)
                refine rs_iret ri_119_105 rm_119.2.1 (by decide) ?_
                exact ⟨by unfold xf_119; first | (simp only [if_pos h1, if_pos h2, if_pos h3, if_pos h4, if_pos h5, if_neg h8, if_pos h9]; done) | rfl, by unfold xm_119; first | (simp only [if_pos h1, if_pos h2, if_pos h3, if_pos h4, if_pos h5, if_neg h8, if_pos h9]; done) | rfl⟩
            · skip
              refine rs_aload_n ri_119_85 rfl rfl ?_
              refine rs_gf (v := .ref 62) ri_119_86 rfl (by decide) (ro_kf (kd_4 (xl_120 (xlw_66 hL (ro_sc_is v1) q5) (ro_sc_is v2) q6).1)) rfl (rf_4_8 (xl_120 (xlw_66 hL (ro_sc_is v1) q5) (ro_sc_is v2) q6).1) ?_
              refine rs_virt (As := []) (r := []) ri_119_89 rfl (by decide) rm_136.2.2.2 rm_136.2.2.1 rfl rfl rfl (by decide) (ro_kf (kd_62 (xl_120 (xlw_66 hL (ro_sc_is v1) q5) (ro_sc_is v2) q6).1)) (Nat.le_of_ble_eq_true rfl) (by decide) (by decide) (xs_136 (X := X) (xl_120 (xlw_66 hL (ro_sc_is v1) q5) (ro_sc_is v2) q6)) ?_
              rintro _ _ ⟨e1, e2⟩
              rw [e1, e2]
              show ro_w X _ 119 _ 92 [(5, .ref (ro_sc v2)), (4, .ref (ro_sc v1)), (0, .ref 4), (1, .int v1), (2, .int v2), (3, .int v3)] [.int (xf_136 (xm_120 (xm_66 M (ro_sc v1)) (ro_sc v2)))] (xm_120 (xm_66 M (ro_sc v1)) (ro_sc v2)) (0, 0)
              refine rs_iret ri_119_92 rm_119.2.1 (by decide) ?_
              exact ⟨by unfold xf_119; first | (simp only [if_pos h1, if_pos h2, if_pos h3, if_pos h4, if_pos h5, if_pos h8]; done) | rfl, by unfold xm_119; first | (simp only [if_pos h1, if_pos h2, if_pos h3, if_pos h4, if_pos h5, if_pos h8]; done) | rfl⟩
          · have hp := hp.2 h5
            refine rs_aload ri_119_57 rfl rfl ?_
            refine rs_virt (As := []) (r := []) ri_119_59 rfl (by decide) rm_65.2.2.2 rm_65.2.2.1 rfl rfl rfl (ro_is4 (ro_sc_is v2)) (ro_kf (is_kd hL.1 (ro_sc_is v2))) (Nat.le_of_ble_eq_true rfl) (by decide) (by decide) (xs_65 (X := X) hL.1 (ro_sc_is v2)) ?_
            rintro _ _ ⟨e1, e2⟩
            rw [e1, e2]
            show ro_w X _ 119 _ 62 [(5, .ref (ro_sc v2)), (4, .ref (ro_sc v1)), (0, .ref 4), (1, .int v1), (2, .int v2), (3, .int v3)] [.int (xf_65 M (ro_sc v2))] M (0, 0)
            refine rs_iret ri_119_62 rm_119.2.1 (by decide) ?_
            exact ⟨by unfold xf_119; first | (simp only [if_pos h1, if_pos h2, if_pos h3, if_pos h4, if_neg h5]; done) | rfl, by unfold xm_119; first | (simp only [if_pos h1, if_pos h2, if_pos h3, if_pos h4, if_neg h5]; done) | rfl⟩
        · have hp := hp.2 h4
          refine rs_aload ri_119_43 rfl rfl ?_
          refine rs_virt (As := []) (r := []) ri_119_45 rfl (by decide) rm_65.2.2.2 rm_65.2.2.1 rfl rfl rfl (ro_is4 (ro_sc_is v1)) (ro_kf (is_kd hL.1 (ro_sc_is v1))) (Nat.le_of_ble_eq_true rfl) (by decide) (by decide) (xs_65 (X := X) hL.1 (ro_sc_is v1)) ?_
          rintro _ _ ⟨e1, e2⟩
          rw [e1, e2]
          show ro_w X _ 119 _ 48 [(5, .ref (ro_sc v2)), (4, .ref (ro_sc v1)), (0, .ref 4), (1, .int v1), (2, .int v2), (3, .int v3)] [.int (xf_65 M (ro_sc v1))] M (0, 0)
          refine rs_iret ri_119_48 rm_119.2.1 (by decide) ?_
          exact ⟨by unfold xf_119; first | (simp only [if_pos h1, if_pos h2, if_pos h3, if_neg h4]; done) | rfl, by unfold xm_119; first | (simp only [if_pos h1, if_pos h2, if_pos h3, if_neg h4]; done) | rfl⟩
      · have hp := hp.2 h3
        refine rs_iconst (v := (-1 : Int32)) ri_119_33 rfl (by decide) ?_
        refine rs_iret ri_119_34 rm_119.2.1 (by decide) ?_
        exact ⟨by unfold xf_119; first | (simp only [if_pos h1, if_pos h2, if_neg h3]; done) | rfl, by unfold xm_119; first | (simp only [if_pos h1, if_pos h2, if_neg h3]; done) | rfl⟩
    · have hp := hp.2 h2
      refine rs_virt (As := [.int v2]) (r := []) ri_119_9 rfl (by decide) rm_20.2.2.2 rm_20.2.2.1 rfl rfl rfl (by decide) (ro_kf (kd_4 hL.1)) (Nat.le_of_ble_eq_true rfl) (by decide) (by decide) (xs_20_f hL.1 h2) ?_
      rintro _ _ ⟨e1, e2⟩
      rw [e1, e2]
      show ro_w X _ 119 _ 12 [(4, .ref (ro_sc v1)), (0, .ref 4), (1, .int v1), (2, .int v2), (3, .int v3)] [.null] M (0, 0)
      refine rs_astoreN (lv2 := [(5, .null), (4, .ref (ro_sc v1)), (0, .ref 4), (1, .int v1), (2, .int v2), (3, .int v3)]) ri_119_12 rfl rm_119.1 (by decide) rfl ?_
      refine rs_aload ri_119_14 rfl rfl ?_
      refine rs_ifnull (t := 33) ri_119_16 rfl rfl ?_
      refine rs_aloadN ri_119_19 rfl rfl ?_
      refine rs_ifnullN (t := 33) ri_119_21 rfl ?_
      refine rs_iconst (v := (-1 : Int32)) ri_119_33 rfl (by decide) ?_
      refine rs_iret ri_119_34 rm_119.2.1 (by decide) ?_
      exact ⟨by unfold xf_119; first | (simp only [if_pos h1, if_neg h2]; done) | rfl, by unfold xm_119; first | (simp only [if_pos h1, if_neg h2]; done) | rfl⟩
  · have hp := hp.2 h1
    refine rs_virt (As := [.int v1]) (r := []) ri_119_2 rfl (by decide) rm_20.2.2.2 rm_20.2.2.1 rfl rfl rfl (by decide) (ro_kf (kd_4 hL.1)) (Nat.le_of_ble_eq_true rfl) (by decide) (by decide) (xs_20_f hL.1 h1) ?_
    rintro _ _ ⟨e1, e2⟩
    rw [e1, e2]
    show ro_w X _ 119 _ 5 [(0, .ref 4), (1, .int v1), (2, .int v2), (3, .int v3)] [.null] M (0, 0)
    refine rs_astoreN (lv2 := [(4, .null), (0, .ref 4), (1, .int v1), (2, .int v2), (3, .int v3)]) ri_119_5 rfl rm_119.1 (by decide) rfl ?_
    refine rs_aload_n ri_119_7 rfl rfl ?_
    refine rs_iload_n ri_119_8 rfl rfl ?_
    by_cases h12 : ro_bs v2 = true
    · skip
      refine rs_virt (As := [.int v2]) (r := []) ri_119_9 rfl (by decide) rm_20.2.2.2 rm_20.2.2.1 rfl rfl rfl (by decide) (ro_kf (kd_4 hL.1)) (Nat.le_of_ble_eq_true rfl) (by decide) (by decide) (xs_20_t hL.1 h12) ?_
      rintro _ _ ⟨e1, e2⟩
      rw [e1, e2]
      show ro_w X _ 119 _ 12 [(4, .null), (0, .ref 4), (1, .int v1), (2, .int v2), (3, .int v3)] [.ref (ro_sc v2)] M (0, 0)
      refine rs_astore (lv2 := [(5, .ref (ro_sc v2)), (4, .null), (0, .ref 4), (1, .int v1), (2, .int v2), (3, .int v3)]) ri_119_12 rfl rm_119.1 (by decide) rfl ?_
      refine rs_aloadN ri_119_14 rfl rfl ?_
      refine rs_ifnullN (t := 33) ri_119_16 rfl ?_
      refine rs_iconst (v := (-1 : Int32)) ri_119_33 rfl (by decide) ?_
      refine rs_iret ri_119_34 rm_119.2.1 (by decide) ?_
      exact ⟨by unfold xf_119; first | (simp only [if_neg h1, if_pos h12]; done) | rfl, by unfold xm_119; first | (simp only [if_neg h1, if_pos h12]; done) | rfl⟩
    · skip
      refine rs_virt (As := [.int v2]) (r := []) ri_119_9 rfl (by decide) rm_20.2.2.2 rm_20.2.2.1 rfl rfl rfl (by decide) (ro_kf (kd_4 hL.1)) (Nat.le_of_ble_eq_true rfl) (by decide) (by decide) (xs_20_f hL.1 h12) ?_
      rintro _ _ ⟨e1, e2⟩
      rw [e1, e2]
      show ro_w X _ 119 _ 12 [(4, .null), (0, .ref 4), (1, .int v1), (2, .int v2), (3, .int v3)] [.null] M (0, 0)
      refine rs_astoreN (lv2 := [(5, .null), (4, .null), (0, .ref 4), (1, .int v1), (2, .int v2), (3, .int v3)]) ri_119_12 rfl rm_119.1 (by decide) rfl ?_
      refine rs_aloadN ri_119_14 rfl rfl ?_
      refine rs_ifnullN (t := 33) ri_119_16 rfl ?_
      refine rs_iconst (v := (-1 : Int32)) ri_119_33 rfl (by decide) ?_
      refine rs_iret ri_119_34 rm_119.2.1 (by decide) ?_
      exact ⟨by unfold xf_119; first | (simp only [if_neg h1, if_neg h12]; done) | rfl, by unfold xm_119; first | (simp only [if_neg h1, if_neg h12]; done) | rfl⟩
set_option maxHeartbeats 2000000 in
theorem xl_119 {M : ro_Mm} {v1 : Int32} {v2 : Int32} {v3 : Int32} (hL : ro_lw M) (hp : xp_119 M v1 v2 v3) : ro_lw (xm_119 M v1 v2 v3) := by
  unfold xp_119 at hp
  unfold xm_119
  by_cases hz : ro_bs v1
  · have hp := hp.1 hz
    rw [if_pos hz]
    by_cases hz : ro_bs v2
    · have hp := hp.1 hz
      rw [if_pos hz]
      by_cases h3 : (xf_13 M v3 (0 : Int32) (3 : Int32))
      · have hp := hp.1 h3
        rw [if_pos h3]
        by_cases h4 : (xf_22 M (ro_sc v1))
        · have hp := hp.1 h4
          rw [if_pos h4]
          by_cases h5 : (xf_22 M (ro_sc v2))
          · have hp := hp.1 h5
            rw [if_pos h5]
            obtain ⟨q5, hp⟩ := hp
            obtain ⟨q6, hp⟩ := hp
            by_cases h8 : v3 = (0 : Int32)
            · skip
              exact (xl_120 (xlw_66 hL (ro_sc_is v1) q5) (ro_sc_is v2) q6)
            · skip
              by_cases h9 : v3 = (3 : Int32)
              · skip
                exact (xl_120 (xlw_66 hL (ro_sc_is v1) q5) (ro_sc_is v2) q6)
              · skip
                by_cases h10 : (xf_136 (xm_120 (xm_66 M (ro_sc v1)) (ro_sc v2))) = (0 : Int32)
                · skip
                  exact (xl_120 (xlw_66 hL (ro_sc_is v1) q5) (ro_sc_is v2) q6)
                · skip
                  by_cases h11 : v3 = (1 : Int32)
                  · skip
                    exact (xl_120 (xlw_66 hL (ro_sc_is v1) q5) (ro_sc_is v2) q6)
                  · skip
                    exact (xl_120 (xlw_66 hL (ro_sc_is v1) q5) (ro_sc_is v2) q6)
          · have hp := hp.2 h5
            rw [if_neg h5]
            exact hL
        · have hp := hp.2 h4
          rw [if_neg h4]
          exact hL
      · have hp := hp.2 h3
        rw [if_neg h3]
        exact hL
    · have hp := hp.2 hz
      rw [if_neg hz]
      exact hL
  · have hp := hp.2 hz
    rw [if_neg hz]
    by_cases hz : ro_bs v2
    · skip
      exact hL
    · skip
      exact hL

