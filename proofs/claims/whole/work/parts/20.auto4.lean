/-! methods without loops: what they answer, what they leave, the rows that show it (by program, wip/whole/walk.py) -/
/-- RefusedOnce.mint(I)I -/
def xf_146 (M : ro_Mm) (v1 : Int32) : Int32 := (if (xf_29 M v1) then (if (xf_30 M v1 (1 : Int32)) < (1 : Int32) then (-5 : Int32) else (if (xf_30 M v1 (0 : Int32)) < (20 : Int32) then ((xf_30 M v1 (0 : Int32)) + (1 : Int32)) else (-5 : Int32))) else (-1 : Int32))
def xm_146 (M : ro_Mm) (v1 : Int32) : ro_Mm := (if (xf_29 M v1) then (if (xf_30 M v1 (1 : Int32)) < (1 : Int32) then M else (if (xf_30 M v1 (0 : Int32)) < (20 : Int32) then (xm_145 (xm_33 (xm_33 M v1 (1 : Int32) ((xf_30 M v1 (1 : Int32)) - (1 : Int32))) v1 (0 : Int32) ((xf_30 M v1 (0 : Int32)) + (1 : Int32))) (2 : Int32)) else M)) else M)
theorem xs_146 {X : ro_Sx} {M : ro_Mm} {v1 : Int32} (hL : ro_lay M) : ro_cwp X 3 146 [.ref 4, .int v1] M (fun v M2 => v = some (.int (xf_146 M v1)) ∧ M2 = xm_146 M v1) := by
  refine rs_begin (lv0 := [(0, .ref 4), (1, .int v1)]) (by decide) rfl (by rw [rm_146.1]; exact Nat.le_of_ble_eq_true rfl) rfl ?_
  refine rs_aload_n ri_146_0 rfl rfl ?_
  refine rs_gf (v := .ref 5) ri_146_1 rfl (by decide) (ro_kf (kd_4 hL)) rfl (rf_4_0 hL) ?_
  refine rs_iload_n ri_146_4 rfl rfl ?_
  refine rs_virt (As := [.int v1]) (r := []) ri_146_5 rfl (by decide) rm_29.2.2.2 rm_29.2.2.1 rfl rfl rfl (by decide) (ro_kf (kd_5 hL)) (Nat.le_of_ble_eq_true rfl) (by decide) (by decide) (xs_29 (X := X) hL) ?_
  rintro _ _ ⟨e1, e2⟩
  rw [e1, e2]
  show ro_w X _ 146 _ 8 [(0, .ref 4), (1, .int v1)] [.int (ro_b (xf_29 M v1))] M (0, 0)
  refine rs_ifne_c (t := 13) ri_146_8 rfl rfl (fun h1 => ?_) (fun h1 => ?_)
  · skip
    refine rs_aload_n ri_146_13 rfl rfl ?_
    refine rs_gf (v := .ref 5) ri_146_14 rfl (by decide) (ro_kf (kd_4 hL)) rfl (rf_4_0 hL) ?_
    refine rs_iload_n ri_146_17 rfl rfl ?_
    refine rs_iconst (v := (0 : Int32)) ri_146_18 rfl (by decide) ?_
    refine rs_virt (As := [.int v1, .int (0 : Int32)]) (r := []) ri_146_19 rfl (by decide) rm_30.2.2.2 rm_30.2.2.1 rfl rfl rfl (by decide) (ro_kf (kd_5 hL)) (Nat.le_of_ble_eq_true rfl) (by decide) (by decide) (xs_30 (X := X) hL) ?_
    rintro _ _ ⟨e1, e2⟩
    rw [e1, e2]
    show ro_w X _ 146 _ 22 [(0, .ref 4), (1, .int v1)] [.int (xf_30 M v1 (0 : Int32))] M (0, 0)
    refine rs_istore_n (lv2 := [(2, .int (xf_30 M v1 (0 : Int32))), (0, .ref 4), (1, .int v1)]) ri_146_22 rfl rm_146.1 (by decide) rfl ?_
    refine rs_aload_n ri_146_23 rfl rfl ?_
    refine rs_gf (v := .ref 5) ri_146_24 rfl (by decide) (ro_kf (kd_4 hL)) rfl (rf_4_0 hL) ?_
    refine rs_iload_n ri_146_27 rfl rfl ?_
    refine rs_iconst (v := (1 : Int32)) ri_146_28 rfl (by decide) ?_
    refine rs_virt (As := [.int v1, .int (1 : Int32)]) (r := []) ri_146_29 rfl (by decide) rm_30.2.2.2 rm_30.2.2.1 rfl rfl rfl (by decide) (ro_kf (kd_5 hL)) (Nat.le_of_ble_eq_true rfl) (by decide) (by decide) (xs_30 (X := X) hL) ?_
    rintro _ _ ⟨e1, e2⟩
    rw [e1, e2]
    show ro_w X _ 146 _ 32 [(2, .int (xf_30 M v1 (0 : Int32))), (0, .ref 4), (1, .int v1)] [.int (xf_30 M v1 (1 : Int32))] M (0, 0)
    refine rs_istore_n (lv2 := [(3, .int (xf_30 M v1 (1 : Int32))), (2, .int (xf_30 M v1 (0 : Int32))), (0, .ref 4), (1, .int v1)]) ri_146_32 rfl rm_146.1 (by decide) rfl ?_
    refine rs_iload_n ri_146_33 rfl rfl ?_
    refine rs_iconst (v := (1 : Int32)) ri_146_34 rfl (by decide) ?_
    refine rs_icmp_lt (t := 44) ri_146_35 rfl rfl (fun h2 => ?_) (fun h2 => ?_)
    · skip
      refine rs_bipush (v := (-5 : Int32)) ri_146_44 rfl (by decide) ?_
      refine rs_iret ri_146_46 rm_146.2.1 (by decide) ?_
      exact ⟨by unfold xf_146; first | (simp only [if_pos h1, if_pos h2]; done) | rfl, by unfold xm_146; first | (simp only [if_pos h1, if_pos h2]; done) | rfl⟩
    · skip
      refine rs_iload_n ri_146_38 rfl rfl ?_
      refine rs_bipush (v := (20 : Int32)) ri_146_39 rfl (by decide) ?_
      refine rs_icmp_lt (t := 47) ri_146_41 rfl rfl (fun h3 => ?_) (fun h3 => ?_)
      · skip
        refine rs_aload_n ri_146_47 rfl rfl ?_
        refine rs_gf (v := .ref 5) ri_146_48 rfl (by decide) (ro_kf (kd_4 hL)) rfl (rf_4_0 hL) ?_
        refine rs_iload_n ri_146_51 rfl rfl ?_
        refine rs_iconst (v := (1 : Int32)) ri_146_52 rfl (by decide) ?_
        refine rs_iload_n ri_146_53 rfl rfl ?_
        refine rs_iconst (v := (1 : Int32)) ri_146_54 rfl (by decide) ?_
        refine rs_isub (r := ((xf_30 M v1 (1 : Int32)) - (1 : Int32))) ri_146_55 rfl rfl ?_
        refine rs_virt (As := [.int v1, .int (1 : Int32), .int ((xf_30 M v1 (1 : Int32)) - (1 : Int32))]) (r := []) ri_146_56 rfl (by decide) rm_33.2.2.2 rm_33.2.2.1 rfl rfl rfl (by decide) (ro_kf (kd_5 hL)) (Nat.le_of_ble_eq_true rfl) (by decide) (by decide) (xs_33 (X := X) hL) ?_
        rintro _ _ ⟨e1, e2⟩
        rw [e1, e2]
        show ro_w X _ 146 _ 59 [(3, .int (xf_30 M v1 (1 : Int32))), (2, .int (xf_30 M v1 (0 : Int32))), (0, .ref 4), (1, .int v1)] [] (xm_33 M v1 (1 : Int32) ((xf_30 M v1 (1 : Int32)) - (1 : Int32))) (0, 0)
        refine rs_aload_n ri_146_59 rfl rfl ?_
        refine rs_gf (v := .ref 5) ri_146_60 rfl (by decide) (ro_kf (kd_4 (xl_33 hL))) rfl (rf_4_0 (xl_33 hL)) ?_
        refine rs_iload_n ri_146_63 rfl rfl ?_
        refine rs_iconst (v := (0 : Int32)) ri_146_64 rfl (by decide) ?_
        refine rs_iload_n ri_146_65 rfl rfl ?_
        refine rs_iconst (v := (1 : Int32)) ri_146_66 rfl (by decide) ?_
        refine rs_iadd (r := ((xf_30 M v1 (0 : Int32)) + (1 : Int32))) ri_146_67 rfl rfl ?_
        refine rs_virt (As := [.int v1, .int (0 : Int32), .int ((xf_30 M v1 (0 : Int32)) + (1 : Int32))]) (r := []) ri_146_68 rfl (by decide) rm_33.2.2.2 rm_33.2.2.1 rfl rfl rfl (by decide) (ro_kf (kd_5 (xl_33 hL))) (Nat.le_of_ble_eq_true rfl) (by decide) (by decide) (xs_33 (X := X) (xl_33 hL)) ?_
        rintro _ _ ⟨e1, e2⟩
        rw [e1, e2]
        show ro_w X _ 146 _ 71 [(3, .int (xf_30 M v1 (1 : Int32))), (2, .int (xf_30 M v1 (0 : Int32))), (0, .ref 4), (1, .int v1)] [] (xm_33 (xm_33 M v1 (1 : Int32) ((xf_30 M v1 (1 : Int32)) - (1 : Int32))) v1 (0 : Int32) ((xf_30 M v1 (0 : Int32)) + (1 : Int32))) (0, 0)
        refine rs_aload_n ri_146_71 rfl rfl ?_
        refine rs_gf (v := .ref 5) ri_146_72 rfl (by decide) (ro_kf (kd_4 (xl_33 (xl_33 hL)))) rfl (rf_4_0 (xl_33 (xl_33 hL))) ?_
        refine rs_iconst (v := (2 : Int32)) ri_146_75 rfl (by decide) ?_
        refine rs_virt (As := [.int (2 : Int32)]) (r := []) ri_146_76 rfl (by decide) rm_145.2.2.2 rm_145.2.2.1 rfl rfl rfl (by decide) (ro_kf (kd_5 (xl_33 (xl_33 hL)))) (Nat.le_of_ble_eq_true rfl) (by decide) (by decide) (xs_145 (X := X) (xl_33 (xl_33 hL))) ?_
        rintro _ _ ⟨e1, e2⟩
        rw [e1, e2]
        show ro_w X _ 146 _ 79 [(3, .int (xf_30 M v1 (1 : Int32))), (2, .int (xf_30 M v1 (0 : Int32))), (0, .ref 4), (1, .int v1)] [] (xm_145 (xm_33 (xm_33 M v1 (1 : Int32) ((xf_30 M v1 (1 : Int32)) - (1 : Int32))) v1 (0 : Int32) ((xf_30 M v1 (0 : Int32)) + (1 : Int32))) (2 : Int32)) (0, 0)
        refine rs_iload_n ri_146_79 rfl rfl ?_
        refine rs_iconst (v := (1 : Int32)) ri_146_80 rfl (by decide) ?_
        refine rs_iadd (r := ((xf_30 M v1 (0 : Int32)) + (1 : Int32))) ri_146_81 rfl rfl ?_
        refine rs_iret ri_146_82 rm_146.2.1 (by decide) ?_
        exact ⟨by unfold xf_146; first | (simp only [if_pos h1, if_neg h2, if_pos h3]; done) | rfl, by unfold xm_146; first | (simp only [if_pos h1, if_neg h2, if_pos h3]; done) | rfl⟩
      · skip
        refine rs_bipush (v := (-5 : Int32)) ri_146_44 rfl (by decide) ?_
        refine rs_iret ri_146_46 rm_146.2.1 (by decide) ?_
        exact ⟨by unfold xf_146; first | (simp only [if_pos h1, if_neg h2, if_neg h3]; done) | rfl, by unfold xm_146; first | (simp only [if_pos h1, if_neg h2, if_neg h3]; done) | rfl⟩
  · skip
    refine rs_iconst (v := (-1 : Int32)) ri_146_11 rfl (by decide) ?_
    refine rs_iret ri_146_12 rm_146.2.1 (by decide) ?_
    exact ⟨by unfold xf_146; first | (simp only [if_neg h1]; done) | rfl, by unfold xm_146; first | (simp only [if_neg h1]; done) | rfl⟩
theorem xl_146 {M : ro_Mm} {v1 : Int32} (hL : ro_lay M) : ro_lay (xm_146 M v1) := by
  unfold xm_146
  by_cases hz : (xf_29 M v1)
  · skip
    rw [if_pos hz]
    by_cases hz : (xf_30 M v1 (1 : Int32)) < (1 : Int32)
    · skip
      rw [if_pos hz]
      exact hL
    · skip
      rw [if_neg hz]
      by_cases hz : (xf_30 M v1 (0 : Int32)) < (20 : Int32)
      · skip
        rw [if_pos hz]
        exact (xl_145 (xl_33 (xl_33 hL)))
      · skip
        rw [if_neg hz]
        exact hL
  · skip
    rw [if_neg hz]
    exact hL
theorem xwI_146 {M : ro_Mm} {v1 : Int32} {c j : Nat} (n0 : c ≠ 7) (n1 : c ≠ 8) (n2 : c ≠ 9) (n3 : c ≠ 10) (n4 : c ≠ 5) (n5 : c ≠ 11) : (xm_146 M v1).2.1 c j = M.2.1 c j := by
  unfold xm_146
  by_cases hz : (xf_29 M v1)
  · rw [if_pos hz]
    by_cases hz : (xf_30 M v1 (1 : Int32)) < (1 : Int32)
    · rw [if_pos hz]
      first | done | exact rfl
    · rw [if_neg hz]
      by_cases hz : (xf_30 M v1 (0 : Int32)) < (20 : Int32)
      · rw [if_pos hz]
        first | done | exact ((((xwI_145 n5)).trans (xwI_33 n0 n1 n2 n3 n4)).trans (xwI_33 n0 n1 n2 n3 n4))
      · rw [if_neg hz]
        first | done | exact rfl
  · rw [if_neg hz]
    first | done | exact rfl
theorem xwJ_146 {M : ro_Mm} {v1 : Int32} {c j : Nat} : (xm_146 M v1).2.2.1 c j = M.2.2.1 c j := by
  unfold xm_146
  by_cases hz : (xf_29 M v1)
  · rw [if_pos hz]
    by_cases hz : (xf_30 M v1 (1 : Int32)) < (1 : Int32)
    · rw [if_pos hz]
      first | done | exact rfl
    · rw [if_neg hz]
      by_cases hz : (xf_30 M v1 (0 : Int32)) < (20 : Int32)
      · rw [if_pos hz]
        first | done | exact ((((xwJ_145)).trans (xwJ_33)).trans (xwJ_33))
      · rw [if_neg hz]
        first | done | exact rfl
  · rw [if_neg hz]
    first | done | exact rfl
/-- RefusedOnce.hour()I -/
def xf_147 (M : ro_Mm) : Int32 := (if (xf_30 M (0 : Int32) (5 : Int32)) < (11 : Int32) then ((xf_30 M (0 : Int32) (5 : Int32)) + (1 : Int32)) else (0 : Int32))
def xm_147 (M : ro_Mm) : ro_Mm := (if (xf_30 M (0 : Int32) (5 : Int32)) < (11 : Int32) then (xm_145 (xm_33 M (0 : Int32) (5 : Int32) ((xf_30 M (0 : Int32) (5 : Int32)) + (1 : Int32))) (3 : Int32)) else (xm_145 (xm_33 M (0 : Int32) (5 : Int32) (0 : Int32)) (3 : Int32)))
theorem xs_147 {X : ro_Sx} {M : ro_Mm} (hL : ro_lay M) : ro_cwp X 3 147 [.ref 4] M (fun v M2 => v = some (.int (xf_147 M)) ∧ M2 = xm_147 M) := by
  refine rs_begin (lv0 := [(0, .ref 4)]) (by decide) rfl (by rw [rm_147.1]; exact Nat.le_of_ble_eq_true rfl) rfl ?_
  refine rs_aload_n ri_147_0 rfl rfl ?_
  refine rs_gf (v := .ref 5) ri_147_1 rfl (by decide) (ro_kf (kd_4 hL)) rfl (rf_4_0 hL) ?_
  refine rs_iconst (v := (0 : Int32)) ri_147_4 rfl (by decide) ?_
  refine rs_iconst (v := (5 : Int32)) ri_147_5 rfl (by decide) ?_
  refine rs_virt (As := [.int (0 : Int32), .int (5 : Int32)]) (r := []) ri_147_6 rfl (by decide) rm_30.2.2.2 rm_30.2.2.1 rfl rfl rfl (by decide) (ro_kf (kd_5 hL)) (Nat.le_of_ble_eq_true rfl) (by decide) (by decide) (xs_30 (X := X) hL) ?_
  rintro _ _ ⟨e1, e2⟩
  rw [e1, e2]
  show ro_w X _ 147 _ 9 [(0, .ref 4)] [.int (xf_30 M (0 : Int32) (5 : Int32))] M (0, 0)
  refine rs_bipush (v := (11 : Int32)) ri_147_9 rfl (by decide) ?_
  refine rs_icmp_lt (t := 18) ri_147_11 rfl rfl (fun h1 => ?_) (fun h1 => ?_)
  · skip
    refine rs_aload_n ri_147_18 rfl rfl ?_
    refine rs_gf (v := .ref 5) ri_147_19 rfl (by decide) (ro_kf (kd_4 hL)) rfl (rf_4_0 hL) ?_
    refine rs_iconst (v := (0 : Int32)) ri_147_22 rfl (by decide) ?_
    refine rs_iconst (v := (5 : Int32)) ri_147_23 rfl (by decide) ?_
    refine rs_virt (As := [.int (0 : Int32), .int (5 : Int32)]) (r := []) ri_147_24 rfl (by decide) rm_30.2.2.2 rm_30.2.2.1 rfl rfl rfl (by decide) (ro_kf (kd_5 hL)) (Nat.le_of_ble_eq_true rfl) (by decide) (by decide) (xs_30 (X := X) hL) ?_
    rintro _ _ ⟨e1, e2⟩
    rw [e1, e2]
    show ro_w X _ 147 _ 27 [(0, .ref 4)] [.int (xf_30 M (0 : Int32) (5 : Int32))] M (0, 0)
    refine rs_iconst (v := (1 : Int32)) ri_147_27 rfl (by decide) ?_
    refine rs_iadd (r := ((xf_30 M (0 : Int32) (5 : Int32)) + (1 : Int32))) ri_147_28 rfl rfl ?_
    refine rs_istore_n (lv2 := [(1, .int ((xf_30 M (0 : Int32) (5 : Int32)) + (1 : Int32))), (0, .ref 4)]) ri_147_29 rfl rm_147.1 (by decide) rfl ?_
    refine rs_aload_n ri_147_30 rfl rfl ?_
    refine rs_gf (v := .ref 5) ri_147_31 rfl (by decide) (ro_kf (kd_4 hL)) rfl (rf_4_0 hL) ?_
    refine rs_iconst (v := (0 : Int32)) ri_147_34 rfl (by decide) ?_
    refine rs_iconst (v := (5 : Int32)) ri_147_35 rfl (by decide) ?_
    refine rs_iload_n ri_147_36 rfl rfl ?_
    refine rs_virt (As := [.int (0 : Int32), .int (5 : Int32), .int ((xf_30 M (0 : Int32) (5 : Int32)) + (1 : Int32))]) (r := []) ri_147_37 rfl (by decide) rm_33.2.2.2 rm_33.2.2.1 rfl rfl rfl (by decide) (ro_kf (kd_5 hL)) (Nat.le_of_ble_eq_true rfl) (by decide) (by decide) (xs_33 (X := X) hL) ?_
    rintro _ _ ⟨e1, e2⟩
    rw [e1, e2]
    show ro_w X _ 147 _ 40 [(1, .int ((xf_30 M (0 : Int32) (5 : Int32)) + (1 : Int32))), (0, .ref 4)] [] (xm_33 M (0 : Int32) (5 : Int32) ((xf_30 M (0 : Int32) (5 : Int32)) + (1 : Int32))) (0, 0)
    refine rs_aload_n ri_147_40 rfl rfl ?_
    refine rs_gf (v := .ref 5) ri_147_41 rfl (by decide) (ro_kf (kd_4 (xl_33 hL))) rfl (rf_4_0 (xl_33 hL)) ?_
    refine rs_iconst (v := (3 : Int32)) ri_147_44 rfl (by decide) ?_
    refine rs_virt (As := [.int (3 : Int32)]) (r := []) ri_147_45 rfl (by decide) rm_145.2.2.2 rm_145.2.2.1 rfl rfl rfl (by decide) (ro_kf (kd_5 (xl_33 hL))) (Nat.le_of_ble_eq_true rfl) (by decide) (by decide) (xs_145 (X := X) (xl_33 hL)) ?_
    rintro _ _ ⟨e1, e2⟩
    rw [e1, e2]
    show ro_w X _ 147 _ 48 [(1, .int ((xf_30 M (0 : Int32) (5 : Int32)) + (1 : Int32))), (0, .ref 4)] [] (xm_145 (xm_33 M (0 : Int32) (5 : Int32) ((xf_30 M (0 : Int32) (5 : Int32)) + (1 : Int32))) (3 : Int32)) (0, 0)
    refine rs_iload_n ri_147_48 rfl rfl ?_
    refine rs_iret ri_147_49 rm_147.2.1 (by decide) ?_
    exact ⟨by unfold xf_147; first | (simp only [if_pos h1]; done) | rfl, by unfold xm_147; first | (simp only [if_pos h1]; done) | rfl⟩
  · skip
    refine rs_iconst (v := (0 : Int32)) ri_147_14 rfl (by decide) ?_
    refine rs_goto (t := 29) ri_147_15 rfl ?_
    refine rs_istore_n (lv2 := [(1, .int (0 : Int32)), (0, .ref 4)]) ri_147_29 rfl rm_147.1 (by decide) rfl ?_
    refine rs_aload_n ri_147_30 rfl rfl ?_
    refine rs_gf (v := .ref 5) ri_147_31 rfl (by decide) (ro_kf (kd_4 hL)) rfl (rf_4_0 hL) ?_
    refine rs_iconst (v := (0 : Int32)) ri_147_34 rfl (by decide) ?_
    refine rs_iconst (v := (5 : Int32)) ri_147_35 rfl (by decide) ?_
    refine rs_iload_n ri_147_36 rfl rfl ?_
    refine rs_virt (As := [.int (0 : Int32), .int (5 : Int32), .int (0 : Int32)]) (r := []) ri_147_37 rfl (by decide) rm_33.2.2.2 rm_33.2.2.1 rfl rfl rfl (by decide) (ro_kf (kd_5 hL)) (Nat.le_of_ble_eq_true rfl) (by decide) (by decide) (xs_33 (X := X) hL) ?_
    rintro _ _ ⟨e1, e2⟩
    rw [e1, e2]
    show ro_w X _ 147 _ 40 [(1, .int (0 : Int32)), (0, .ref 4)] [] (xm_33 M (0 : Int32) (5 : Int32) (0 : Int32)) (0, 0)
    refine rs_aload_n ri_147_40 rfl rfl ?_
    refine rs_gf (v := .ref 5) ri_147_41 rfl (by decide) (ro_kf (kd_4 (xl_33 hL))) rfl (rf_4_0 (xl_33 hL)) ?_
    refine rs_iconst (v := (3 : Int32)) ri_147_44 rfl (by decide) ?_
    refine rs_virt (As := [.int (3 : Int32)]) (r := []) ri_147_45 rfl (by decide) rm_145.2.2.2 rm_145.2.2.1 rfl rfl rfl (by decide) (ro_kf (kd_5 (xl_33 hL))) (Nat.le_of_ble_eq_true rfl) (by decide) (by decide) (xs_145 (X := X) (xl_33 hL)) ?_
    rintro _ _ ⟨e1, e2⟩
    rw [e1, e2]
    show ro_w X _ 147 _ 48 [(1, .int (0 : Int32)), (0, .ref 4)] [] (xm_145 (xm_33 M (0 : Int32) (5 : Int32) (0 : Int32)) (3 : Int32)) (0, 0)
    refine rs_iload_n ri_147_48 rfl rfl ?_
    refine rs_iret ri_147_49 rm_147.2.1 (by decide) ?_
    exact ⟨by unfold xf_147; first | (simp only [if_neg h1]; done) | rfl, by unfold xm_147; first | (simp only [if_neg h1]; done) | rfl⟩
theorem xl_147 {M : ro_Mm} (hL : ro_lay M) : ro_lay (xm_147 M) := by
  unfold xm_147
  by_cases hz : (xf_30 M (0 : Int32) (5 : Int32)) < (11 : Int32)
  · skip
    rw [if_pos hz]
    exact (xl_145 (xl_33 hL))
  · skip
    rw [if_neg hz]
    exact (xl_145 (xl_33 hL))
theorem xwI_147 {M : ro_Mm} {c j : Nat} (n0 : c ≠ 7) (n1 : c ≠ 8) (n2 : c ≠ 9) (n3 : c ≠ 10) (n4 : c ≠ 5) (n5 : c ≠ 11) : (xm_147 M).2.1 c j = M.2.1 c j := by
  unfold xm_147
  by_cases hz : (xf_30 M (0 : Int32) (5 : Int32)) < (11 : Int32)
  · rw [if_pos hz]
    first | done | exact (((xwI_145 n5)).trans (xwI_33 n0 n1 n2 n3 n4))
  · rw [if_neg hz]
    first | done | exact (((xwI_145 n5)).trans (xwI_33 n0 n1 n2 n3 n4))
theorem xwJ_147 {M : ro_Mm} {c j : Nat} : (xm_147 M).2.2.1 c j = M.2.2.1 c j := by
  unfold xm_147
  by_cases hz : (xf_30 M (0 : Int32) (5 : Int32)) < (11 : Int32)
  · rw [if_pos hz]
    first | done | exact (((xwJ_145)).trans (xwJ_33))
  · rw [if_neg hz]
    first | done | exact (((xwJ_145)).trans (xwJ_33))
/-- RefusedOnce.led(I)I -/
def xf_148 (M : ro_Mm) (v1 : Int32) : Int32 := (if (xf_13 M v1 (0 : Int32) (3 : Int32)) then (xf_149 M v1) else (-1 : Int32))
theorem xs_148 {X : ro_Sx} {M : ro_Mm} {v1 : Int32} (hL : ro_lay M) : ro_cwp X 2 148 [.ref 4, .int v1] M (fun v M2 => v = some (.int (xf_148 M v1)) ∧ M2 = M) := by
  refine rs_begin (lv0 := [(0, .ref 4), (1, .int v1)]) (by decide) rfl (by rw [rm_148.1]; exact Nat.le_of_ble_eq_true rfl) rfl ?_
  refine rs_iload_n ri_148_0 rfl rfl ?_
  refine rs_iconst (v := (0 : Int32)) ri_148_1 rfl (by decide) ?_
  refine rs_iconst (v := (3 : Int32)) ri_148_2 rfl (by decide) ?_
  refine rs_stat (As := [.int v1, .int (0 : Int32), .int (3 : Int32)]) (r := []) ri_148_3 rfl rm_13.2.2.2 rfl rfl rfl (Nat.le_of_ble_eq_true rfl) (by decide) (by decide) (xs_13 (X := X) hL) ?_
  rintro _ _ ⟨e1, e2⟩
  rw [e1, e2]
  show ro_w X _ 148 _ 6 [(0, .ref 4), (1, .int v1)] [.int (ro_b (xf_13 M v1 (0 : Int32) (3 : Int32)))] M (0, 0)
  refine rs_ifeq_c (t := 20) ri_148_6 rfl rfl (fun h1 => ?_) (fun h1 => ?_)
  · skip
    refine rs_iconst (v := (-1 : Int32)) ri_148_20 rfl (by decide) ?_
    refine rs_iret ri_148_21 rm_148.2.1 (by decide) ?_
    exact ⟨by unfold xf_148; first | (simp only [if_neg h1]; done) | rfl, by rfl⟩
  · skip
    refine rs_aload_n ri_148_9 rfl rfl ?_
    refine rs_gf (v := .ref 5) ri_148_10 rfl (by decide) (ro_kf (kd_4 hL)) rfl (rf_4_0 hL) ?_
    refine rs_iload_n ri_148_13 rfl rfl ?_
    refine rs_virt (As := [.int v1]) (r := []) ri_148_14 rfl (by decide) rm_149.2.2.2 rm_149.2.2.1 rfl rfl rfl (by decide) (ro_kf (kd_5 hL)) (Nat.le_of_ble_eq_true rfl) (by decide) (by decide) (xs_149 (X := X) hL) ?_
    rintro _ _ ⟨e1, e2⟩
    rw [e1, e2]
    show ro_w X _ 148 _ 17 [(0, .ref 4), (1, .int v1)] [.int (xf_149 M v1)] M (0, 0)
    refine rs_goto (t := 21) ri_148_17 rfl ?_
    refine rs_iret ri_148_21 rm_148.2.1 (by decide) ?_
    exact ⟨by unfold xf_148; first | (simp only [if_pos h1]; done) | rfl, by rfl⟩
/-- RefusedOnce.undo()I -/
def xf_154 (M : ro_Mm) : Int32 := (if (xf_155 M) then (xf_156 (xm_155 M)) else (-5 : Int32))
def xm_154 (M : ro_Mm) : ro_Mm := (xm_155 M)
theorem xs_154 {X : ro_Sx} {M : ro_Mm} (hL : ro_lay M) : ro_cwp X 4 154 [.ref 4] M (fun v M2 => v = some (.int (xf_154 M)) ∧ M2 = xm_154 M) := by
  refine rs_begin (lv0 := [(0, .ref 4)]) (by decide) rfl (by rw [rm_154.1]; exact Nat.le_of_ble_eq_true rfl) rfl ?_
  refine rs_aload_n ri_154_0 rfl rfl ?_
  refine rs_gf (v := .ref 54) ri_154_1 rfl (by decide) (ro_kf (kd_4 hL)) rfl (rf_4_6 hL) ?_
  refine rs_aload_n ri_154_4 rfl rfl ?_
  refine rs_gf (v := .ref 5) ri_154_5 rfl (by decide) (ro_kf (kd_4 hL)) rfl (rf_4_0 hL) ?_
  refine rs_virt (As := [.ref 5]) (r := []) ri_154_8 rfl (by decide) rm_155.2.2.2 rm_155.2.2.1 rfl rfl rfl (by decide) (ro_kf (kd_54 hL)) (Nat.le_of_ble_eq_true rfl) (by decide) (by decide) (xs_155 (X := X) hL) ?_
  rintro _ _ ⟨e1, e2⟩
  rw [e1, e2]
  show ro_w X _ 154 _ 11 [(0, .ref 4)] [.int (ro_b (xf_155 M))] (xm_155 M) (0, 0)
  refine rs_ifeq_c (t := 24) ri_154_11 rfl rfl (fun h1 => ?_) (fun h1 => ?_)
  · skip
    refine rs_bipush (v := (-5 : Int32)) ri_154_24 rfl (by decide) ?_
    refine rs_iret ri_154_26 rm_154.2.1 (by decide) ?_
    exact ⟨by unfold xf_154; first | (simp only [if_neg h1]; done) | rfl, by unfold xm_154; first | (simp only [if_neg h1]; done) | rfl⟩
  · skip
    refine rs_aload_n ri_154_14 rfl rfl ?_
    refine rs_gf (v := .ref 54) ri_154_15 rfl (by decide) (ro_kf (kd_4 (xl_155 hL))) rfl (rf_4_6 (xl_155 hL)) ?_
    refine rs_virt (As := []) (r := []) ri_154_18 rfl (by decide) rm_156.2.2.2 rm_156.2.2.1 rfl rfl rfl (by decide) (ro_kf (kd_54 (xl_155 hL))) (Nat.le_of_ble_eq_true rfl) (by decide) (by decide) (xs_156 (X := X) (xl_155 hL)) ?_
    rintro _ _ ⟨e1, e2⟩
    rw [e1, e2]
    show ro_w X _ 154 _ 21 [(0, .ref 4)] [.int (xf_156 (xm_155 M))] (xm_155 M) (0, 0)
    refine rs_goto (t := 26) ri_154_21 rfl ?_
    refine rs_iret ri_154_26 rm_154.2.1 (by decide) ?_
    exact ⟨by unfold xf_154; first | (simp only [if_pos h1]; done) | rfl, by unfold xm_154; first | (simp only [if_pos h1]; done) | rfl⟩
theorem xl_154 {M : ro_Mm} (hL : ro_lay M) : ro_lay (xm_154 M) := by
  unfold xm_154
  by_cases hz : (xf_155 M)
  · skip
    exact (xl_155 hL)
  · skip
    exact (xl_155 hL)
theorem xwI_154 {M : ro_Mm} {c j : Nat} (n0 : c ≠ 7) (n1 : c ≠ 8) (n2 : c ≠ 9) (n3 : c ≠ 10) (n4 : c ≠ 5) (n5 : c ≠ 54) : (xm_154 M).2.1 c j = M.2.1 c j := by
  unfold xm_154
  first | done | exact (xwI_155 n0 n1 n2 n3 n4 n5)
theorem xwJ_154 {M : ro_Mm} {c j : Nat} : (xm_154 M).2.2.1 c j = M.2.2.1 c j := by
  unfold xm_154
  first | done | exact (xwJ_155)
/-- RefusedOnce.redo()I -/
def xf_157 (M : ro_Mm) : Int32 := (if (xf_158 M) then (xf_159 (xm_158 M)) else (-5 : Int32))
def xm_157 (M : ro_Mm) : ro_Mm := (xm_158 M)
theorem xs_157 {X : ro_Sx} {M : ro_Mm} (hL : ro_lay M) : ro_cwp X 4 157 [.ref 4] M (fun v M2 => v = some (.int (xf_157 M)) ∧ M2 = xm_157 M) := by
  refine rs_begin (lv0 := [(0, .ref 4)]) (by decide) rfl (by rw [rm_157.1]; exact Nat.le_of_ble_eq_true rfl) rfl ?_
  refine rs_aload_n ri_157_0 rfl rfl ?_
  refine rs_gf (v := .ref 54) ri_157_1 rfl (by decide) (ro_kf (kd_4 hL)) rfl (rf_4_6 hL) ?_
  refine rs_aload_n ri_157_4 rfl rfl ?_
  refine rs_gf (v := .ref 5) ri_157_5 rfl (by decide) (ro_kf (kd_4 hL)) rfl (rf_4_0 hL) ?_
  refine rs_virt (As := [.ref 5]) (r := []) ri_157_8 rfl (by decide) rm_158.2.2.2 rm_158.2.2.1 rfl rfl rfl (by decide) (ro_kf (kd_54 hL)) (Nat.le_of_ble_eq_true rfl) (by decide) (by decide) (xs_158 (X := X) hL) ?_
  rintro _ _ ⟨e1, e2⟩
  rw [e1, e2]
  show ro_w X _ 157 _ 11 [(0, .ref 4)] [.int (ro_b (xf_158 M))] (xm_158 M) (0, 0)
  refine rs_ifeq_c (t := 24) ri_157_11 rfl rfl (fun h1 => ?_) (fun h1 => ?_)
  · skip
    refine rs_bipush (v := (-5 : Int32)) ri_157_24 rfl (by decide) ?_
    refine rs_iret ri_157_26 rm_157.2.1 (by decide) ?_
    exact ⟨by unfold xf_157; first | (simp only [if_neg h1]; done) | rfl, by unfold xm_157; first | (simp only [if_neg h1]; done) | rfl⟩
  · skip
    refine rs_aload_n ri_157_14 rfl rfl ?_
    refine rs_gf (v := .ref 54) ri_157_15 rfl (by decide) (ro_kf (kd_4 (xl_158 hL))) rfl (rf_4_6 (xl_158 hL)) ?_
    refine rs_virt (As := []) (r := []) ri_157_18 rfl (by decide) rm_159.2.2.2 rm_159.2.2.1 rfl rfl rfl (by decide) (ro_kf (kd_54 (xl_158 hL))) (Nat.le_of_ble_eq_true rfl) (by decide) (by decide) (xs_159 (X := X) (xl_158 hL)) ?_
    rintro _ _ ⟨e1, e2⟩
    rw [e1, e2]
    show ro_w X _ 157 _ 21 [(0, .ref 4)] [.int (xf_159 (xm_158 M))] (xm_158 M) (0, 0)
    refine rs_goto (t := 26) ri_157_21 rfl ?_
    refine rs_iret ri_157_26 rm_157.2.1 (by decide) ?_
    exact ⟨by unfold xf_157; first | (simp only [if_pos h1]; done) | rfl, by unfold xm_157; first | (simp only [if_pos h1]; done) | rfl⟩
theorem xl_157 {M : ro_Mm} (hL : ro_lay M) : ro_lay (xm_157 M) := by
  unfold xm_157
  by_cases hz : (xf_158 M)
  · skip
    exact (xl_158 hL)
  · skip
    exact (xl_158 hL)
theorem xwI_157 {M : ro_Mm} {c j : Nat} (n0 : c ≠ 7) (n1 : c ≠ 8) (n2 : c ≠ 9) (n3 : c ≠ 10) (n4 : c ≠ 5) (n5 : c ≠ 54) : (xm_157 M).2.1 c j = M.2.1 c j := by
  unfold xm_157
  first | done | exact (xwI_158 n0 n1 n2 n3 n4 n5)
theorem xwJ_157 {M : ro_Mm} {c j : Nat} : (xm_157 M).2.2.1 c j = M.2.2.1 c j := by
  unfold xm_157
  first | done | exact (xwJ_158)
/-- RefusedOnce.body(I)I -/
def xf_160 (M : ro_Mm) (v1 : Int32) : Int32 := (if (xf_161 M v1) then (if (xf_162 M v1) then ((xf_163 (xm_162 M v1)) - (1 : Int32)) else (-3 : Int32)) else (-1 : Int32))
def xm_160 (M : ro_Mm) (v1 : Int32) : ro_Mm := (if (xf_161 M v1) then (xm_162 M v1) else M)
theorem xs_160 {X : ro_Sx} {M : ro_Mm} {v1 : Int32} (hL : ro_lay M) : ro_cwp X 2 160 [.ref 4, .int v1] M (fun v M2 => v = some (.int (xf_160 M v1)) ∧ M2 = xm_160 M v1) := by
  refine rs_begin (lv0 := [(0, .ref 4), (1, .int v1)]) (by decide) rfl (by rw [rm_160.1]; exact Nat.le_of_ble_eq_true rfl) rfl ?_
  refine rs_iload_n ri_160_0 rfl rfl ?_
  refine rs_stat (As := [.int v1]) (r := []) ri_160_1 rfl rm_161.2.2.2 rfl rfl rfl (Nat.le_of_ble_eq_true rfl) (by decide) (by decide) (xs_161 (X := X) hL) ?_
  rintro _ _ ⟨e1, e2⟩
  rw [e1, e2]
  show ro_w X _ 160 _ 4 [(0, .ref 4), (1, .int v1)] [.int (ro_b (xf_161 M v1))] M (0, 0)
  refine rs_ifne_c (t := 9) ri_160_4 rfl rfl (fun h1 => ?_) (fun h1 => ?_)
  · skip
    refine rs_aload_n ri_160_9 rfl rfl ?_
    refine rs_gf (v := .ref 59) ri_160_10 rfl (by decide) (ro_kf (kd_4 hL)) rfl (rf_4_7 hL) ?_
    refine rs_iload_n ri_160_13 rfl rfl ?_
    refine rs_virt (As := [.int v1]) (r := []) ri_160_14 rfl (by decide) rm_162.2.2.2 rm_162.2.2.1 rfl rfl rfl (by decide) (ro_kf (kd_59 hL)) (Nat.le_of_ble_eq_true rfl) (by decide) (by decide) (xs_162 (X := X) hL) ?_
    rintro _ _ ⟨e1, e2⟩
    rw [e1, e2]
    show ro_w X _ 160 _ 17 [(0, .ref 4), (1, .int v1)] [.int (ro_b (xf_162 M v1))] (xm_162 M v1) (0, 0)
    refine rs_ifeq_c (t := 32) ri_160_17 rfl rfl (fun h2 => ?_) (fun h2 => ?_)
    · skip
      refine rs_bipush (v := (-3 : Int32)) ri_160_32 rfl (by decide) ?_
      refine rs_iret ri_160_34 rm_160.2.1 (by decide) ?_
      exact ⟨by unfold xf_160; first | (simp only [if_pos h1, if_neg h2]; done) | rfl, by unfold xm_160; first | (simp only [if_pos h1, if_neg h2]; done) | rfl⟩
    · skip
      refine rs_aload_n ri_160_20 rfl rfl ?_
      refine rs_gf (v := .ref 59) ri_160_21 rfl (by decide) (ro_kf (kd_4 (xl_162 hL))) rfl (rf_4_7 (xl_162 hL)) ?_
      refine rs_virt (As := []) (r := []) ri_160_24 rfl (by decide) rm_163.2.2.2 rm_163.2.2.1 rfl rfl rfl (by decide) (ro_kf (kd_59 (xl_162 hL))) (Nat.le_of_ble_eq_true rfl) (by decide) (by decide) (xs_163 (X := X) (xl_162 hL)) ?_
      rintro _ _ ⟨e1, e2⟩
      rw [e1, e2]
      show ro_w X _ 160 _ 27 [(0, .ref 4), (1, .int v1)] [.int (xf_163 (xm_162 M v1))] (xm_162 M v1) (0, 0)
      refine rs_iconst (v := (1 : Int32)) ri_160_27 rfl (by decide) ?_
      refine rs_isub (r := ((xf_163 (xm_162 M v1)) - (1 : Int32))) ri_160_28 rfl rfl ?_
      refine rs_goto (t := 34) ri_160_29 rfl ?_
      refine rs_iret ri_160_34 rm_160.2.1 (by decide) ?_
      exact ⟨by unfold xf_160; first | (simp only [if_pos h1, if_pos h2]; done) | rfl, by unfold xm_160; first | (simp only [if_pos h1, if_pos h2]; done) | rfl⟩
  · skip
    refine rs_iconst (v := (-1 : Int32)) ri_160_7 rfl (by decide) ?_
    refine rs_iret ri_160_8 rm_160.2.1 (by decide) ?_
    exact ⟨by unfold xf_160; first | (simp only [if_neg h1]; done) | rfl, by unfold xm_160; first | (simp only [if_neg h1]; done) | rfl⟩
theorem xl_160 {M : ro_Mm} {v1 : Int32} (hL : ro_lay M) : ro_lay (xm_160 M v1) := by
  unfold xm_160
  by_cases hz : (xf_161 M v1)
  · skip
    rw [if_pos hz]
    by_cases hz : (xf_162 M v1)
    · skip
      exact (xl_162 hL)
    · skip
      exact (xl_162 hL)
  · skip
    rw [if_neg hz]
    exact hL
theorem xwI_160 {M : ro_Mm} {v1 : Int32} {c j : Nat} (n0 : c ≠ 60) (n1 : c ≠ 59) : (xm_160 M v1).2.1 c j = M.2.1 c j := by
  unfold xm_160
  by_cases hz : (xf_161 M v1)
  · rw [if_pos hz]
    first | done | exact (xwI_162 n0 n1)
  · rw [if_neg hz]
    first | done | exact rfl
theorem xwJ_160 {M : ro_Mm} {v1 : Int32} {c j : Nat} : (xm_160 M v1).2.2.1 c j = M.2.2.1 c j := by
  unfold xm_160
  by_cases hz : (xf_161 M v1)
  · rw [if_pos hz]
    first | done | exact (xwJ_162)
  · rw [if_neg hz]
    first | done | exact rfl
/-- RefusedOnce.trace(I)I -/
def xf_173 (M : ro_Mm) (v1 : Int32) : Int32 := (xf_174 M v1)
theorem xs_173 {X : ro_Sx} {M : ro_Mm} {v1 : Int32} (hL : ro_lay M) : ro_cwp X 2 173 [.ref 4, .int v1] M (fun v M2 => v = some (.int (xf_173 M v1)) ∧ M2 = M) := by
  refine rs_begin (lv0 := [(0, .ref 4), (1, .int v1)]) (by decide) rfl (by rw [rm_173.1]; exact Nat.le_of_ble_eq_true rfl) rfl ?_
  refine rs_aload_n ri_173_0 rfl rfl ?_
  refine rs_gf (v := .ref 59) ri_173_1 rfl (by decide) (ro_kf (kd_4 hL)) rfl (rf_4_7 hL) ?_
  refine rs_iload_n ri_173_4 rfl rfl ?_
  refine rs_virt (As := [.int v1]) (r := []) ri_173_5 rfl (by decide) rm_174.2.2.2 rm_174.2.2.1 rfl rfl rfl (by decide) (ro_kf (kd_59 hL)) (Nat.le_of_ble_eq_true rfl) (by decide) (by decide) (xs_174 (X := X) hL) ?_
  rintro _ _ ⟨e1, e2⟩
  rw [e1, e2]
  show ro_w X _ 173 _ 8 [(0, .ref 4), (1, .int v1)] [.int (xf_174 M v1)] M (0, 0)
  refine rs_iret ri_173_8 rm_173.2.1 (by decide) ?_
  exact ⟨by rfl, by rfl⟩
/-- RefusedOnce.keep(II)I -/
def xf_175 (M : ro_Mm) (v1 : Int32) (v2 : Int32) : Int32 := (if ro_bs v1 then (if (xf_13 M v2 (-1 : Int32) ((xf_163 M) - (1 : Int32))) then (1 : Int32) else (-1 : Int32)) else (-1 : Int32))
def xm_175 (M : ro_Mm) (v1 : Int32) (v2 : Int32) : ro_Mm := (if ro_bs v1 then (if (xf_13 M v2 (-1 : Int32) ((xf_163 M) - (1 : Int32))) then (xm_176 M (ro_sc v1) v2) else M) else M)
theorem xs_175 {X : ro_Sx} {M : ro_Mm} {v1 : Int32} {v2 : Int32} (hL : ro_lay M) : ro_cwp X 2 175 [.ref 4, .int v1, .int v2] M (fun v M2 => v = some (.int (xf_175 M v1 v2)) ∧ M2 = xm_175 M v1 v2) := by
  refine rs_begin (lv0 := [(0, .ref 4), (1, .int v1), (2, .int v2)]) (by decide) rfl (by rw [rm_175.1]; exact Nat.le_of_ble_eq_true rfl) rfl ?_
  refine rs_aload_n ri_175_0 rfl rfl ?_
  refine rs_iload_n ri_175_1 rfl rfl ?_
  by_cases h1 : ro_bs v1 = true
  · skip
    refine rs_virt (As := [.int v1]) (r := []) ri_175_2 rfl (by decide) rm_20.2.2.2 rm_20.2.2.1 rfl rfl rfl (by decide) (ro_kf (kd_4 hL)) (Nat.le_of_ble_eq_true rfl) (by decide) (by decide) (xs_20_t hL h1) ?_
    rintro _ _ ⟨e1, e2⟩
    rw [e1, e2]
    show ro_w X _ 175 _ 5 [(0, .ref 4), (1, .int v1), (2, .int v2)] [.ref (ro_sc v1)] M (0, 0)
    refine rs_astore_n (lv2 := [(3, .ref (ro_sc v1)), (0, .ref 4), (1, .int v1), (2, .int v2)]) ri_175_5 rfl rm_175.1 (by decide) rfl ?_
    refine rs_aload_n ri_175_6 rfl rfl ?_
    refine rs_ifnull (t := 27) ri_175_7 rfl rfl ?_
    refine rs_iload_n ri_175_10 rfl rfl ?_
    refine rs_iconst (v := (-1 : Int32)) ri_175_11 rfl (by decide) ?_
    refine rs_aload_n ri_175_12 rfl rfl ?_
    refine rs_gf (v := .ref 59) ri_175_13 rfl (by decide) (ro_kf (kd_4 hL)) rfl (rf_4_7 hL) ?_
    refine rs_virt (As := []) (r := [.int (-1 : Int32), .int v2]) ri_175_16 rfl (by decide) rm_163.2.2.2 rm_163.2.2.1 rfl rfl rfl (by decide) (ro_kf (kd_59 hL)) (Nat.le_of_ble_eq_true rfl) (by decide) (by decide) (xs_163 (X := X) hL) ?_
    rintro _ _ ⟨e1, e2⟩
    rw [e1, e2]
    show ro_w X _ 175 _ 19 [(3, .ref (ro_sc v1)), (0, .ref 4), (1, .int v1), (2, .int v2)] [.int (xf_163 M), .int (-1 : Int32), .int v2] M (0, 0)
    refine rs_iconst (v := (1 : Int32)) ri_175_19 rfl (by decide) ?_
    refine rs_isub (r := ((xf_163 M) - (1 : Int32))) ri_175_20 rfl rfl ?_
    refine rs_stat (As := [.int v2, .int (-1 : Int32), .int ((xf_163 M) - (1 : Int32))]) (r := []) ri_175_21 rfl rm_13.2.2.2 rfl rfl rfl (Nat.le_of_ble_eq_true rfl) (by decide) (by decide) (xs_13 (X := X) hL) ?_
    rintro _ _ ⟨e1, e2⟩
    rw [e1, e2]
    show ro_w X _ 175 _ 24 [(3, .ref (ro_sc v1)), (0, .ref 4), (1, .int v1), (2, .int v2)] [.int (ro_b (xf_13 M v2 (-1 : Int32) ((xf_163 M) - (1 : Int32))))] M (0, 0)
    refine rs_ifne_c (t := 29) ri_175_24 rfl rfl (fun h2 => ?_) (fun h2 => ?_)
    · skip
      refine rs_aload_n ri_175_29 rfl rfl ?_
      refine rs_iload_n ri_175_30 rfl rfl ?_
      refine rs_virt (As := [.int v2]) (r := []) ri_175_31 rfl (by decide) rm_176.2.2.2 rm_176.2.2.1 rfl rfl rfl (ro_is4 (ro_sc_is v1)) (ro_kf (is_kd hL (ro_sc_is v1))) (Nat.le_of_ble_eq_true rfl) (by decide) (by decide) (xs_176 (X := X) hL (ro_sc_is v1)) ?_
      rintro _ _ ⟨e1, e2⟩
      rw [e1, e2]
      show ro_w X _ 175 _ 34 [(3, .ref (ro_sc v1)), (0, .ref 4), (1, .int v1), (2, .int v2)] [] (xm_176 M (ro_sc v1) v2) (0, 0)
      refine rs_iconst (v := (1 : Int32)) ri_175_34 rfl (by decide) ?_
      refine rs_iret ri_175_35 rm_175.2.1 (by decide) ?_
      exact ⟨by unfold xf_175; first | (simp only [if_pos h1, if_pos h2]; done) | rfl, by unfold xm_175; first | (simp only [if_pos h1, if_pos h2]; done) | rfl⟩
    · skip
      refine rs_iconst (v := (-1 : Int32)) ri_175_27 rfl (by decide) ?_
      refine rs_iret ri_175_28 rm_175.2.1 (by decide) ?_
      exact ⟨by unfold xf_175; first | (simp only [if_pos h1, if_neg h2]; done) | rfl, by unfold xm_175; first | (simp only [if_pos h1, if_neg h2]; done) | rfl⟩
  · skip
    refine rs_virt (As := [.int v1]) (r := []) ri_175_2 rfl (by decide) rm_20.2.2.2 rm_20.2.2.1 rfl rfl rfl (by decide) (ro_kf (kd_4 hL)) (Nat.le_of_ble_eq_true rfl) (by decide) (by decide) (xs_20_f hL h1) ?_
    rintro _ _ ⟨e1, e2⟩
    rw [e1, e2]
    show ro_w X _ 175 _ 5 [(0, .ref 4), (1, .int v1), (2, .int v2)] [.null] M (0, 0)
    refine rs_astoreN_n (lv2 := [(3, .null), (0, .ref 4), (1, .int v1), (2, .int v2)]) ri_175_5 rfl rm_175.1 (by decide) rfl ?_
    refine rs_aloadN_n ri_175_6 rfl rfl ?_
    refine rs_ifnullN (t := 27) ri_175_7 rfl ?_
    refine rs_iconst (v := (-1 : Int32)) ri_175_27 rfl (by decide) ?_
    refine rs_iret ri_175_28 rm_175.2.1 (by decide) ?_
    exact ⟨by unfold xf_175; first | (simp only [if_neg h1]; done) | rfl, by unfold xm_175; first | (simp only [if_neg h1]; done) | rfl⟩
theorem xl_175 {M : ro_Mm} {v1 : Int32} {v2 : Int32} (hL : ro_lay M) : ro_lay (xm_175 M v1 v2) := by
  unfold xm_175
  by_cases hz : ro_bs v1
  · skip
    rw [if_pos hz]
    by_cases hz : (xf_13 M v2 (-1 : Int32) ((xf_163 M) - (1 : Int32)))
    · skip
      rw [if_pos hz]
      exact (xl_176 hL (ro_sc_is v1))
    · skip
      rw [if_neg hz]
      exact hL
  · skip
    rw [if_neg hz]
    exact hL
theorem xwI_175 {M : ro_Mm} {v1 : Int32} {v2 : Int32} {c j : Nat} (n0 : c ≠ (ro_sc v1)) : (xm_175 M v1 v2).2.1 c j = M.2.1 c j := by
  unfold xm_175
  by_cases hz : ro_bs v1
  · rw [if_pos hz]
    by_cases hz : (xf_13 M v2 (-1 : Int32) ((xf_163 M) - (1 : Int32)))
    · rw [if_pos hz]
      first | done | exact (xwI_176 n0)
    · rw [if_neg hz]
      first | done | exact rfl
  · rw [if_neg hz]
    first | done | exact rfl
theorem xwJ_175 {M : ro_Mm} {v1 : Int32} {v2 : Int32} {c j : Nat} : (xm_175 M v1 v2).2.2.1 c j = M.2.2.1 c j := by
  unfold xm_175
  by_cases hz : ro_bs v1
  · rw [if_pos hz]
    by_cases hz : (xf_13 M v2 (-1 : Int32) ((xf_163 M) - (1 : Int32)))
    · rw [if_pos hz]
      first | done | exact (xwJ_176)
    · rw [if_neg hz]
      first | done | exact rfl
  · rw [if_neg hz]
    first | done | exact rfl
/-- RefusedOnce$Shelf.putIn(IJ)Z -/
def xf_181 (M : ro_Mm) (c0 : Nat) (v1 : Int32) (v2 : Int64) : Bool := (if v1 < (0 : Int32) then false else (if (M.2.1 c0 2) ≤ v1 then false else (if v1 < (60 : Int32) then true else false)))
def xm_181 (M : ro_Mm) (c0 : Nat) (v1 : Int32) (v2 : Int64) : ro_Mm := (if v1 < (0 : Int32) then M else (if (M.2.1 c0 2) ≤ v1 then M else (if v1 < (60 : Int32) then (ro_sJ M (c0 + 1) (v1.toNatClampNeg) (xf_182 M c0 v2)) else M)))
theorem xs_181 {X : ro_Sx} {M : ro_Mm} {c0 : Nat} {v1 : Int32} {v2 : Int64} (hL : ro_lay M) (hc0 : ro_is c0) : ro_cwp X 2 181 [.ref c0, .int v1, .long v2] M (fun v M2 => v = some (.int (ro_b (xf_181 M c0 v1 v2))) ∧ M2 = xm_181 M c0 v1 v2) := by
  refine rs_begin (lv0 := [(0, .ref c0), (1, .int v1), (2, .long v2)]) (by decide) rfl (by rw [rm_181.1]; exact Nat.le_of_ble_eq_true rfl) rfl ?_
  refine rs_iload_n ri_181_0 rfl rfl ?_
  refine rs_if_lt (t := 21) ri_181_1 rfl rfl (fun h1 => ?_) (fun h1 => ?_)
  · skip
    refine rs_iconst (v := (0 : Int32)) ri_181_21 rfl (by decide) ?_
    refine rs_zret (p := false) ri_181_22 rm_181.2.1 (by decide) rfl ?_
    exact ⟨by unfold xf_181; first | (simp only [if_pos h1]; done) | rfl, by unfold xm_181; first | (simp only [if_pos h1]; done) | rfl⟩
  · skip
    refine rs_iload_n ri_181_4 rfl rfl ?_
    refine rs_aload_n ri_181_5 rfl rfl ?_
    refine rs_gf (v := .int (M.2.1 c0 2)) ri_181_6 rfl (ro_is4 hc0) (ro_kf (is_kd hL hc0)) rfl rfl ?_
    refine rs_icmp_ge (t := 21) ri_181_9 rfl rfl (fun h2 => ?_) (fun h2 => ?_)
    · skip
      refine rs_iconst (v := (0 : Int32)) ri_181_21 rfl (by decide) ?_
      refine rs_zret (p := false) ri_181_22 rm_181.2.1 (by decide) rfl ?_
      exact ⟨by unfold xf_181; first | (simp only [if_neg h1, if_pos h2]; done) | rfl, by unfold xm_181; first | (simp only [if_neg h1, if_pos h2]; done) | rfl⟩
    · skip
      refine rs_iload_n ri_181_12 rfl rfl ?_
      refine rs_aload_n ri_181_13 rfl rfl ?_
      refine rs_gf (v := .ref (c0 + 1)) ri_181_14 rfl (ro_is4 hc0) (ro_kf (is_kd hL hc0)) rfl (is_r0 hL hc0) ?_
      refine rs_len (v := (60 : Int32)) ri_181_17 rfl (by have := ro_is4 hc0; omega) (is_kd1 hL hc0) (by decide) rfl ?_
      refine rs_icmp_lt (t := 23) ri_181_18 rfl rfl (fun h3 => ?_) (fun h3 => ?_)
      · skip
        refine rs_aload_n ri_181_23 rfl rfl ?_
        refine rs_gf (v := .ref (c0 + 1)) ri_181_24 rfl (ro_is4 hc0) (ro_kf (is_kd hL hc0)) rfl (is_r0 hL hc0) ?_
        refine rs_iload_n ri_181_27 rfl rfl ?_
        refine rs_aload_n ri_181_28 rfl rfl ?_
        refine rs_lload_n ri_181_29 rfl rfl ?_
        refine rs_virt (As := [.long v2]) (r := [.int v1, .ref (c0 + 1)]) ri_181_30 rfl (by decide) rm_182.2.2.2 rm_182.2.2.1 rfl rfl rfl (ro_is4 hc0) (ro_kf (is_kd hL hc0)) (Nat.le_of_ble_eq_true rfl) (by decide) (by decide) (xs_182 (X := X) hL hc0) ?_
        rintro _ _ ⟨e1, e2⟩
        rw [e1, e2]
        show ro_w X _ 181 _ 33 [(0, .ref c0), (1, .int v1), (2, .long v2)] [.long (xf_182 M c0 v2), .int v1, .ref (c0 + 1)] M (0, 0)
        refine rs_last (j := v1.toNatClampNeg) ri_181_33 rfl (by have := ro_is4 hc0; omega) (is_kd1 hL hc0) (vp_in_iff.mpr ⟨(ro_lo1 h1), (ro_hi1 h3 (by decide))⟩) rfl ?_
        refine rs_iconst (v := (1 : Int32)) ri_181_34 rfl (by decide) ?_
        refine rs_zret (p := true) ri_181_35 rm_181.2.1 (by decide) rfl ?_
        exact ⟨by unfold xf_181; first | (simp only [if_neg h1, if_neg h2, if_pos h3]; done) | rfl, by unfold xm_181; first | (simp only [if_neg h1, if_neg h2, if_pos h3]; done) | rfl⟩
      · skip
        refine rs_iconst (v := (0 : Int32)) ri_181_21 rfl (by decide) ?_
        refine rs_zret (p := false) ri_181_22 rm_181.2.1 (by decide) rfl ?_
        exact ⟨by unfold xf_181; first | (simp only [if_neg h1, if_neg h2, if_neg h3]; done) | rfl, by unfold xm_181; first | (simp only [if_neg h1, if_neg h2, if_neg h3]; done) | rfl⟩
theorem xl_181 {M : ro_Mm} {c0 : Nat} {v1 : Int32} {v2 : Int64} (hL : ro_lay M) (hc0 : ro_is c0) : ro_lay (xm_181 M c0 v1 v2) := by
  unfold xm_181
  by_cases hz : v1 < (0 : Int32)
  · skip
    rw [if_pos hz]
    exact hL
  · skip
    rw [if_neg hz]
    by_cases hz : (M.2.1 c0 2) ≤ v1
    · skip
      rw [if_pos hz]
      exact hL
    · skip
      rw [if_neg hz]
      by_cases hz : v1 < (60 : Int32)
      · skip
        rw [if_pos hz]
        exact hL
      · skip
        rw [if_neg hz]
        exact hL
theorem xwI_181 {M : ro_Mm} {c0 : Nat} {v1 : Int32} {v2 : Int64} {c j : Nat} : (xm_181 M c0 v1 v2).2.1 c j = M.2.1 c j := by
  unfold xm_181
  by_cases hz : v1 < (0 : Int32)
  · rw [if_pos hz]
    first | done | exact rfl
  · rw [if_neg hz]
    by_cases hz : (M.2.1 c0 2) ≤ v1
    · rw [if_pos hz]
      first | done | exact rfl
    · rw [if_neg hz]
      by_cases hz : v1 < (60 : Int32)
      · rw [if_pos hz]
        first | done | exact rfl
      · rw [if_neg hz]
        first | done | exact rfl
theorem xwJ_181 {M : ro_Mm} {c0 : Nat} {v1 : Int32} {v2 : Int64} {c j : Nat} (n0 : c ≠ (c0 + 1)) : (xm_181 M c0 v1 v2).2.2.1 c j = M.2.2.1 c j := by
  unfold xm_181
  by_cases hz : v1 < (0 : Int32)
  · rw [if_pos hz]
    first | done | exact rfl
  · rw [if_neg hz]
    by_cases hz : (M.2.1 c0 2) ≤ v1
    · rw [if_pos hz]
      first | done | exact rfl
    · rw [if_neg hz]
      by_cases hz : v1 < (60 : Int32)
      · rw [if_pos hz]
        first | done | exact (ro_sJ_ne n0)
      · rw [if_neg hz]
        first | done | exact rfl
/-- RefusedOnceModel.person(I)I -/
def xf_194 (M : ro_Mm) (v1 : Int32) : Int32 := (if (xf_195 M v1 (0 : Int32) (20 : Int32)) then (if (M.2.1 163 1) = (6 : Int32) then (-3 : Int32) else (xf_196 M v1 (0 : Int32) (3 : Int32))) else (-1 : Int32))
def xm_194 (M : ro_Mm) (v1 : Int32) : ro_Mm := (if (xf_195 M v1 (0 : Int32) (20 : Int32)) then (if (M.2.1 163 1) = (6 : Int32) then M else (xm_196 M v1 (0 : Int32) (3 : Int32))) else M)
def xp_194 (M : ro_Mm) (v1 : Int32) : Prop := (((xf_195 M v1 (0 : Int32) (20 : Int32)) → (((M.2.1 163 1) = (6 : Int32) → True) ∧ (¬ ((M.2.1 163 1) = (6 : Int32)) → (xp_196 M v1 (0 : Int32) (3 : Int32) ∧ True)))) ∧ (¬ ((xf_195 M v1 (0 : Int32) (20 : Int32))) → True))
theorem xs_194 {X : ro_Sx} {M : ro_Mm} {v1 : Int32} (hL : ro_lay M) (hp : xp_194 M v1) : ro_cwp X 2 194 [.ref 163, .int v1] M (fun v M2 => v = some (.int (xf_194 M v1)) ∧ M2 = xm_194 M v1) := by
  refine rs_begin (lv0 := [(0, .ref 163), (1, .int v1)]) (by decide) rfl (by rw [rm_194.1]; exact Nat.le_of_ble_eq_true rfl) rfl ?_
  unfold xp_194 at hp
  refine rs_iload_n ri_194_0 rfl rfl ?_
  refine rs_iconst (v := (0 : Int32)) ri_194_1 rfl (by decide) ?_
  refine rs_bipush (v := (20 : Int32)) ri_194_2 rfl (by decide) ?_
  refine rs_stat (As := [.int v1, .int (0 : Int32), .int (20 : Int32)]) (r := []) ri_194_4 rfl rm_195.2.2.2 rfl rfl rfl (Nat.le_of_ble_eq_true rfl) (by decide) (by decide) (xs_195 (X := X) hL) ?_
  rintro _ _ ⟨e1, e2⟩
  rw [e1, e2]
  show ro_w X _ 194 _ 7 [(0, .ref 163), (1, .int v1)] [.int (ro_b (xf_195 M v1 (0 : Int32) (20 : Int32)))] M (0, 0)
  refine rs_ifne_c (t := 12) ri_194_7 rfl rfl (fun h1 => ?_) (fun h1 => ?_)
  · have hp := hp.1 h1
    refine rs_aload_n ri_194_12 rfl rfl ?_
    refine rs_gf (v := .int (M.2.1 163 1)) ri_194_13 rfl (by decide) (ro_kf (kd_163 hL)) rfl rfl ?_
    refine rs_bipush (v := (6 : Int32)) ri_194_16 rfl (by decide) ?_
    refine rs_icmp_ne (t := 26) ri_194_18 rfl rfl (fun h2 => ?_) (fun h2 => ?_)
    · have hp := hp.2 h2
      refine rs_aload_n ri_194_26 rfl rfl ?_
      refine rs_iload_n ri_194_27 rfl rfl ?_
      refine rs_iconst (v := (0 : Int32)) ri_194_28 rfl (by decide) ?_
      refine rs_iconst (v := (3 : Int32)) ri_194_29 rfl (by decide) ?_
      obtain ⟨q2, hp⟩ := hp
      refine rs_virt (As := [.int v1, .int (0 : Int32), .int (3 : Int32)]) (r := []) ri_194_30 rfl (by decide) rm_196.2.2.2 rm_196.2.2.1 rfl rfl rfl (by decide) (ro_kf (kd_163 hL)) (Nat.le_of_ble_eq_true rfl) (by decide) (by decide) (xs_196 (X := X) hL q2) ?_
      rintro _ _ ⟨e1, e2⟩
      rw [e1, e2]
      show ro_w X _ 194 _ 33 [(0, .ref 163), (1, .int v1)] [.int (xf_196 M v1 (0 : Int32) (3 : Int32))] (xm_196 M v1 (0 : Int32) (3 : Int32)) (0, 0)
      refine rs_iret ri_194_33 rm_194.2.1 (by decide) ?_
      exact ⟨by unfold xf_194; first | (simp only [if_pos h1, if_neg h2]; done) | rfl, by unfold xm_194; first | (simp only [if_pos h1, if_neg h2]; done) | rfl⟩
    · have hp := hp.1 h2
      refine rs_bipush (v := (-3 : Int32)) ri_194_21 rfl (by decide) ?_
      refine rs_goto (t := 33) ri_194_23 rfl ?_
      refine rs_iret ri_194_33 rm_194.2.1 (by decide) ?_
      exact ⟨by unfold xf_194; first | (simp only [if_pos h1, if_pos h2]; done) | rfl, by unfold xm_194; first | (simp only [if_pos h1, if_pos h2]; done) | rfl⟩
  · have hp := hp.2 h1
    refine rs_iconst (v := (-1 : Int32)) ri_194_10 rfl (by decide) ?_
    refine rs_iret ri_194_11 rm_194.2.1 (by decide) ?_
    exact ⟨by unfold xf_194; first | (simp only [if_neg h1]; done) | rfl, by unfold xm_194; first | (simp only [if_neg h1]; done) | rfl⟩
theorem xl_194 {M : ro_Mm} {v1 : Int32} (hL : ro_lay M) (hp : xp_194 M v1) : ro_lay (xm_194 M v1) := by
  unfold xp_194 at hp
  unfold xm_194
  by_cases hz : (xf_195 M v1 (0 : Int32) (20 : Int32))
  · have hp := hp.1 hz
    rw [if_pos hz]
    by_cases hz : (M.2.1 163 1) = (6 : Int32)
    · have hp := hp.1 hz
      rw [if_pos hz]
      exact hL
    · have hp := hp.2 hz
      rw [if_neg hz]
      obtain ⟨q2, hp⟩ := hp
      exact (xl_196 hL q2)
  · have hp := hp.2 hz
    rw [if_neg hz]
    exact hL
theorem xwI_194 {M : ro_Mm} {v1 : Int32} {c j : Nat} (n0 : c ≠ 164) (n1 : c ≠ 165) (n2 : c ≠ 166) (n3 : c ≠ 167) (n4 : c ≠ 163) : (xm_194 M v1).2.1 c j = M.2.1 c j := by
  unfold xm_194
  by_cases hz : (xf_195 M v1 (0 : Int32) (20 : Int32))
  · rw [if_pos hz]
    by_cases hz : (M.2.1 163 1) = (6 : Int32)
    · rw [if_pos hz]
      first | done | exact rfl
    · rw [if_neg hz]
      first | done | exact (xwI_196 n0 n1 n2 n3 n4)
  · rw [if_neg hz]
    first | done | exact rfl
theorem xwJ_194 {M : ro_Mm} {v1 : Int32} {c j : Nat} : (xm_194 M v1).2.2.1 c j = M.2.2.1 c j := by
  unfold xm_194
  by_cases hz : (xf_195 M v1 (0 : Int32) (20 : Int32))
  · rw [if_pos hz]
    by_cases hz : (M.2.1 163 1) = (6 : Int32)
    · rw [if_pos hz]
      first | done | exact rfl
    · rw [if_neg hz]
      first | done | exact (xwJ_196)
  · rw [if_neg hz]
    first | done | exact rfl
/-- RefusedOnceModel.undo()I -/
def xf_199 (M : ro_Mm) : Int32 := (if (M.2.1 163 7) = (0 : Int32) then (-5 : Int32) else ((M.2.1 163 7) - (1 : Int32)))
def xm_199 (M : ro_Mm) : ro_Mm := (if (M.2.1 163 7) = (0 : Int32) then M else (xm_200 (ro_sI (ro_sI M 163 7 ((M.2.1 163 7) - (1 : Int32))) 163 8 ((M.2.1 163 8) + (1 : Int32))) (M.2.1 169 (((M.2.1 163 7) - (1 : Int32)).toNatClampNeg)) (M.2.1 170 (((M.2.1 163 7) - (1 : Int32)).toNatClampNeg)) (M.2.1 171 (((M.2.1 163 7) - (1 : Int32)).toNatClampNeg))))
def xp_199 (M : ro_Mm) : Prop := (((M.2.1 163 7) = (0 : Int32) → True) ∧ (¬ ((M.2.1 163 7) = (0 : Int32)) → (vp_in ((M.2.1 163 7) - (1 : Int32)) 40 ∧ (vp_in ((M.2.1 163 7) - (1 : Int32)) 40 ∧ (vp_in ((M.2.1 163 7) - (1 : Int32)) 40 ∧ (xp_200 (ro_sI (ro_sI M 163 7 ((M.2.1 163 7) - (1 : Int32))) 163 8 ((M.2.1 163 8) + (1 : Int32))) (M.2.1 169 (((M.2.1 163 7) - (1 : Int32)).toNatClampNeg)) (M.2.1 170 (((M.2.1 163 7) - (1 : Int32)).toNatClampNeg)) (M.2.1 171 (((M.2.1 163 7) - (1 : Int32)).toNatClampNeg)) ∧ True))))))
theorem xs_199 {X : ro_Sx} {M : ro_Mm} (hL : ro_lay M) (hp : xp_199 M) : ro_cwp X 2 199 [.ref 163] M (fun v M2 => v = some (.int (xf_199 M)) ∧ M2 = xm_199 M) := by
  refine rs_begin (lv0 := [(0, .ref 163)]) (by decide) rfl (by rw [rm_199.1]; exact Nat.le_of_ble_eq_true rfl) rfl ?_
  unfold xp_199 at hp
  refine rs_aload_n ri_199_0 rfl rfl ?_
  refine rs_gf (v := .int (M.2.1 163 7)) ri_199_1 rfl (by decide) (ro_kf (kd_163 hL)) rfl rfl ?_
  refine rs_if_ne (t := 10) ri_199_4 rfl rfl (fun h1 => ?_) (fun h1 => ?_)
  · have hp := hp.2 h1
    refine rs_aload_n ri_199_10 rfl rfl ?_
    refine rs_dup ri_199_11 rfl rfl ?_
    refine rs_gf (v := .int (M.2.1 163 7)) ri_199_12 rfl (by decide) (ro_kf (kd_163 hL)) rfl rfl ?_
    refine rs_iconst (v := (1 : Int32)) ri_199_15 rfl (by decide) ?_
    refine rs_isub (r := ((M.2.1 163 7) - (1 : Int32))) ri_199_16 rfl rfl ?_
    refine rs_pf (M2 := (ro_sI M 163 7 ((M.2.1 163 7) - (1 : Int32)))) ri_199_17 rfl (by decide) (ro_kf (kd_163 hL)) (fun h => absurd h (by decide)) (fun f h => h) ?_
    refine rs_aload_n ri_199_20 rfl rfl ?_
    refine rs_dup ri_199_21 rfl rfl ?_
    refine rs_gf (v := .int (M.2.1 163 8)) ri_199_22 rfl (by decide) (ro_kf (kd_163 hL)) rfl rfl ?_
    refine rs_iconst (v := (1 : Int32)) ri_199_25 rfl (by decide) ?_
    refine rs_iadd (r := ((M.2.1 163 8) + (1 : Int32))) ri_199_26 rfl rfl ?_
    refine rs_pf (M2 := (ro_sI (ro_sI M 163 7 ((M.2.1 163 7) - (1 : Int32))) 163 8 ((M.2.1 163 8) + (1 : Int32)))) ri_199_27 rfl (by decide) (ro_kf (kd_163 hL)) (fun h => absurd h (by decide)) (fun f h => h) ?_
    refine rs_aload_n ri_199_30 rfl rfl ?_
    refine rs_aload_n ri_199_31 rfl rfl ?_
    refine rs_gf (v := .ref 169) ri_199_32 rfl (by decide) (ro_kf (kd_163 hL)) rfl (rf_163_9 hL) ?_
    refine rs_aload_n ri_199_35 rfl rfl ?_
    refine rs_gf (v := .int ((M.2.1 163 7) - (1 : Int32))) ri_199_36 rfl (by decide) (ro_kf (kd_163 hL)) rfl rfl ?_
    obtain ⟨q1, hp⟩ := hp
    refine rs_iald (v := (M.2.1 169 (((M.2.1 163 7) - (1 : Int32)).toNatClampNeg))) ri_199_39 rfl (by decide) (kd_169 hL) q1 rfl ?_
    refine rs_aload_n ri_199_40 rfl rfl ?_
    refine rs_gf (v := .ref 170) ri_199_41 rfl (by decide) (ro_kf (kd_163 hL)) rfl (rf_163_10 hL) ?_
    refine rs_aload_n ri_199_44 rfl rfl ?_
    refine rs_gf (v := .int ((M.2.1 163 7) - (1 : Int32))) ri_199_45 rfl (by decide) (ro_kf (kd_163 hL)) rfl rfl ?_
    obtain ⟨q2, hp⟩ := hp
    refine rs_iald (v := (M.2.1 170 (((M.2.1 163 7) - (1 : Int32)).toNatClampNeg))) ri_199_48 rfl (by decide) (kd_170 hL) q2 rfl ?_
    refine rs_aload_n ri_199_49 rfl rfl ?_
    refine rs_gf (v := .ref 171) ri_199_50 rfl (by decide) (ro_kf (kd_163 hL)) rfl (rf_163_11 hL) ?_
    refine rs_aload_n ri_199_53 rfl rfl ?_
    refine rs_gf (v := .int ((M.2.1 163 7) - (1 : Int32))) ri_199_54 rfl (by decide) (ro_kf (kd_163 hL)) rfl rfl ?_
    obtain ⟨q3, hp⟩ := hp
    refine rs_iald (v := (M.2.1 171 (((M.2.1 163 7) - (1 : Int32)).toNatClampNeg))) ri_199_57 rfl (by decide) (kd_171 hL) q3 rfl ?_
    obtain ⟨q4, hp⟩ := hp
    refine rs_virt (As := [.int (M.2.1 169 (((M.2.1 163 7) - (1 : Int32)).toNatClampNeg)), .int (M.2.1 170 (((M.2.1 163 7) - (1 : Int32)).toNatClampNeg)), .int (M.2.1 171 (((M.2.1 163 7) - (1 : Int32)).toNatClampNeg))]) (r := []) ri_199_58 rfl (by decide) rm_200.2.2.2 rm_200.2.2.1 rfl rfl rfl (by decide) (ro_kf (kd_163 hL)) (Nat.le_of_ble_eq_true rfl) (by decide) (by decide) (xs_200 (X := X) hL q4) ?_
    rintro _ _ ⟨e1, e2⟩
    rw [e1, e2]
    show ro_w X _ 199 _ 61 [(0, .ref 163)] [] (xm_200 (ro_sI (ro_sI M 163 7 ((M.2.1 163 7) - (1 : Int32))) 163 8 ((M.2.1 163 8) + (1 : Int32))) (M.2.1 169 (((M.2.1 163 7) - (1 : Int32)).toNatClampNeg)) (M.2.1 170 (((M.2.1 163 7) - (1 : Int32)).toNatClampNeg)) (M.2.1 171 (((M.2.1 163 7) - (1 : Int32)).toNatClampNeg))) (0, 0)
    refine rs_aload_n ri_199_61 rfl rfl ?_
    refine rs_gf (v := .int ((M.2.1 163 7) - (1 : Int32))) ri_199_62 rfl (by decide) (ro_kf (kd_163 (xl_200 hL q4))) rfl (congrArg Value.int (xwI_200 (by decide) (by decide) (by decide) (by decide) (by decide))) ?_
    refine rs_iret ri_199_65 rm_199.2.1 (by decide) ?_
    exact ⟨by unfold xf_199; first | (simp only [if_neg h1]; done) | rfl, by unfold xm_199; first | (simp only [if_neg h1]; done) | rfl⟩
  · have hp := hp.1 h1
    refine rs_bipush (v := (-5 : Int32)) ri_199_7 rfl (by decide) ?_
    refine rs_iret ri_199_9 rm_199.2.1 (by decide) ?_
    exact ⟨by unfold xf_199; first | (simp only [if_pos h1]; done) | rfl, by unfold xm_199; first | (simp only [if_pos h1]; done) | rfl⟩
theorem xl_199 {M : ro_Mm} (hL : ro_lay M) (hp : xp_199 M) : ro_lay (xm_199 M) := by
  unfold xp_199 at hp
  unfold xm_199
  by_cases hz : (M.2.1 163 7) = (0 : Int32)
  · have hp := hp.1 hz
    rw [if_pos hz]
    exact hL
  · have hp := hp.2 hz
    rw [if_neg hz]
    obtain ⟨q1, hp⟩ := hp
    obtain ⟨q2, hp⟩ := hp
    obtain ⟨q3, hp⟩ := hp
    obtain ⟨q4, hp⟩ := hp
    exact (xl_200 hL q4)
theorem xwI_199 {M : ro_Mm} {c j : Nat} (n0 : c ≠ 163) (n1 : c ≠ 164) (n2 : c ≠ 165) (n3 : c ≠ 166) (n4 : c ≠ 167) (n5 : c ≠ 168) : (xm_199 M).2.1 c j = M.2.1 c j := by
  unfold xm_199
  by_cases hz : (M.2.1 163 7) = (0 : Int32)
  · rw [if_pos hz]
    first | done | exact rfl
  · rw [if_neg hz]
    first | done | exact ((((xwI_200 n1 n2 n3 n4 n5)).trans (ro_sI_ne n0)).trans (ro_sI_ne n0))
theorem xwJ_199 {M : ro_Mm} {c j : Nat} : (xm_199 M).2.2.1 c j = M.2.2.1 c j := by
  unfold xm_199
  by_cases hz : (M.2.1 163 7) = (0 : Int32)
  · rw [if_pos hz]
    first | done | exact rfl
  · rw [if_neg hz]
    first | done | exact (xwJ_200)
/-- RefusedOnceModel.isPlace(II)Z -/
def xf_203 (M : ro_Mm) (v1 : Int32) (v2 : Int32) : Bool := (if (xf_195 M v2 (0 : Int32) (3 : Int32)) then (xf_204 M v1) else (if (xf_195 M v2 (4 : Int32) (6 : Int32)) then (if v1 = (0 : Int32) then true else false) else false))
theorem xs_203 {X : ro_Sx} {M : ro_Mm} {v1 : Int32} {v2 : Int32} (hL : ro_lay M) : ro_cwp X 3 203 [.ref 163, .int v1, .int v2] M (fun v M2 => v = some (.int (ro_b (xf_203 M v1 v2))) ∧ M2 = M) := by
  refine rs_begin (lv0 := [(0, .ref 163), (1, .int v1), (2, .int v2)]) (by decide) rfl (by rw [rm_203.1]; exact Nat.le_of_ble_eq_true rfl) rfl ?_
  refine rs_iload_n ri_203_0 rfl rfl ?_
  refine rs_iconst (v := (0 : Int32)) ri_203_1 rfl (by decide) ?_
  refine rs_iconst (v := (3 : Int32)) ri_203_2 rfl (by decide) ?_
  refine rs_stat (As := [.int v2, .int (0 : Int32), .int (3 : Int32)]) (r := []) ri_203_3 rfl rm_195.2.2.2 rfl rfl rfl (Nat.le_of_ble_eq_true rfl) (by decide) (by decide) (xs_195 (X := X) hL) ?_
  rintro _ _ ⟨e1, e2⟩
  rw [e1, e2]
  show ro_w X _ 203 _ 6 [(0, .ref 163), (1, .int v1), (2, .int v2)] [.int (ro_b (xf_195 M v2 (0 : Int32) (3 : Int32)))] M (0, 0)
  refine rs_ifeq_c (t := 17) ri_203_6 rfl rfl (fun h1 => ?_) (fun h1 => ?_)
  · skip
    refine rs_iload_n ri_203_17 rfl rfl ?_
    refine rs_iconst (v := (4 : Int32)) ri_203_18 rfl (by decide) ?_
    refine rs_bipush (v := (6 : Int32)) ri_203_19 rfl (by decide) ?_
    refine rs_stat (As := [.int v2, .int (4 : Int32), .int (6 : Int32)]) (r := []) ri_203_21 rfl rm_195.2.2.2 rfl rfl rfl (Nat.le_of_ble_eq_true rfl) (by decide) (by decide) (xs_195 (X := X) hL) ?_
    rintro _ _ ⟨e1, e2⟩
    rw [e1, e2]
    show ro_w X _ 203 _ 24 [(0, .ref 163), (1, .int v1), (2, .int v2)] [.int (ro_b (xf_195 M v2 (4 : Int32) (6 : Int32)))] M (0, 0)
    refine rs_ifeq_c (t := 35) ri_203_24 rfl rfl (fun h2 => ?_) (fun h2 => ?_)
    · skip
      refine rs_iconst (v := (0 : Int32)) ri_203_35 rfl (by decide) ?_
      refine rs_zret (p := false) ri_203_36 rm_203.2.1 (by decide) rfl ?_
      exact ⟨by unfold xf_203; first | (simp only [if_neg h1, if_neg h2]; done) | rfl, by rfl⟩
    · skip
      refine rs_iload_n ri_203_27 rfl rfl ?_
      refine rs_if_ne (t := 35) ri_203_28 rfl rfl (fun h3 => ?_) (fun h3 => ?_)
      · skip
        refine rs_iconst (v := (0 : Int32)) ri_203_35 rfl (by decide) ?_
        refine rs_zret (p := false) ri_203_36 rm_203.2.1 (by decide) rfl ?_
        exact ⟨by unfold xf_203; first | (simp only [if_neg h1, if_pos h2, if_neg h3]; done) | rfl, by rfl⟩
      · skip
        refine rs_iconst (v := (1 : Int32)) ri_203_31 rfl (by decide) ?_
        refine rs_goto (t := 36) ri_203_32 rfl ?_
        refine rs_zret (p := true) ri_203_36 rm_203.2.1 (by decide) rfl ?_
        exact ⟨by unfold xf_203; first | (simp only [if_neg h1, if_pos h2, if_pos h3]; done) | rfl, by rfl⟩
  · skip
    refine rs_aload_n ri_203_9 rfl rfl ?_
    refine rs_iload_n ri_203_10 rfl rfl ?_
    refine rs_virt (As := [.int v1]) (r := []) ri_203_11 rfl (by decide) rm_204.2.2.2 rm_204.2.2.1 rfl rfl rfl (by decide) (ro_kf (kd_163 hL)) (Nat.le_of_ble_eq_true rfl) (by decide) (by decide) (xs_204 (X := X) hL) ?_
    rintro _ _ ⟨e1, e2⟩
    rw [e1, e2]
    show ro_w X _ 203 _ 14 [(0, .ref 163), (1, .int v1), (2, .int v2)] [.int (ro_b (xf_204 M v1))] M (0, 0)
    refine rs_goto (t := 36) ri_203_14 rfl ?_
    refine rs_zret (p := (xf_204 M v1)) ri_203_36 rm_203.2.1 (by decide) rfl ?_
    exact ⟨by unfold xf_203; first | (simp only [if_pos h1]; done) | rfl, by rfl⟩
/-- RefusedOnceModel.of(II)I -/
def xf_208 (M : ro_Mm) (v1 : Int32) (v2 : Int32) : Int32 := (if v2 = (7 : Int32) then (if (xf_204 M v1) then (((4 : Int32) * (M.2.1 164 (v1.toNatClampNeg))) + ((M.2.1 168 0) * (M.2.1 165 (v1.toNatClampNeg)))) else (-1 : Int32)) else (if v2 = (8 : Int32) then (if (xf_204 M v1) then (xf_209 M v1) else (-1 : Int32)) else (if (xf_203 M v1 v2) then (xf_207 M v2 v1) else (-1 : Int32))))
def xp_208 (M : ro_Mm) (v1 : Int32) (v2 : Int32) : Prop := ((v2 = (7 : Int32) → (((xf_204 M v1) → (vp_in v1 6 ∧ (vp_in v1 6 ∧ True))) ∧ (¬ ((xf_204 M v1)) → True))) ∧ (¬ (v2 = (7 : Int32)) → ((v2 = (8 : Int32) → (((xf_204 M v1) → (xp_209 M v1 ∧ True)) ∧ (¬ ((xf_204 M v1)) → True))) ∧ (¬ (v2 = (8 : Int32)) → (((xf_203 M v1 v2) → (xp_207 M v2 v1 ∧ True)) ∧ (¬ ((xf_203 M v1 v2)) → True))))))
theorem xs_208 {X : ro_Sx} {M : ro_Mm} {v1 : Int32} {v2 : Int32} (hL : ro_lay M) (hp : xp_208 M v1 v2) : ro_cwp X 4 208 [.ref 163, .int v1, .int v2] M (fun v M2 => v = some (.int (xf_208 M v1 v2)) ∧ M2 = M) := by
  refine rs_begin (lv0 := [(0, .ref 163), (1, .int v1), (2, .int v2)]) (by decide) rfl (by rw [rm_208.1]; exact Nat.le_of_ble_eq_true rfl) rfl ?_
  unfold xp_208 at hp
  refine rs_iload_n ri_208_0 rfl rfl ?_
  refine rs_bipush (v := (7 : Int32)) ri_208_1 rfl (by decide) ?_
  refine rs_icmp_ne (t := 41) ri_208_3 rfl rfl (fun h1 => ?_) (fun h1 => ?_)
  · have hp := hp.2 h1
    refine rs_iload_n ri_208_41 rfl rfl ?_
    refine rs_bipush (v := (8 : Int32)) ri_208_42 rfl (by decide) ?_
    refine rs_icmp_ne (t := 65) ri_208_44 rfl rfl (fun h2 => ?_) (fun h2 => ?_)
    · have hp := hp.2 h2
      refine rs_aload_n ri_208_65 rfl rfl ?_
      refine rs_iload_n ri_208_66 rfl rfl ?_
      refine rs_iload_n ri_208_67 rfl rfl ?_
      refine rs_virt (As := [.int v1, .int v2]) (r := []) ri_208_68 rfl (by decide) rm_203.2.2.2 rm_203.2.2.1 rfl rfl rfl (by decide) (ro_kf (kd_163 hL)) (Nat.le_of_ble_eq_true rfl) (by decide) (by decide) (xs_203 (X := X) hL) ?_
      rintro _ _ ⟨e1, e2⟩
      rw [e1, e2]
      show ro_w X _ 208 _ 71 [(0, .ref 163), (1, .int v1), (2, .int v2)] [.int (ro_b (xf_203 M v1 v2))] M (0, 0)
      refine rs_ifeq_c (t := 83) ri_208_71 rfl rfl (fun h3 => ?_) (fun h3 => ?_)
      · have hp := hp.2 h3
        refine rs_iconst (v := (-1 : Int32)) ri_208_83 rfl (by decide) ?_
        refine rs_iret ri_208_84 rm_208.2.1 (by decide) ?_
        exact ⟨by unfold xf_208; first | (simp only [if_neg h1, if_neg h2, if_neg h3]; done) | rfl, by rfl⟩
      · have hp := hp.1 h3
        refine rs_aload_n ri_208_74 rfl rfl ?_
        refine rs_iload_n ri_208_75 rfl rfl ?_
        refine rs_iload_n ri_208_76 rfl rfl ?_
        obtain ⟨q3, hp⟩ := hp
        refine rs_virt (As := [.int v2, .int v1]) (r := []) ri_208_77 rfl (by decide) rm_207.2.2.2 rm_207.2.2.1 rfl rfl rfl (by decide) (ro_kf (kd_163 hL)) (Nat.le_of_ble_eq_true rfl) (by decide) (by decide) (xs_207 (X := X) hL q3) ?_
        rintro _ _ ⟨e1, e2⟩
        rw [e1, e2]
        show ro_w X _ 208 _ 80 [(0, .ref 163), (1, .int v1), (2, .int v2)] [.int (xf_207 M v2 v1)] M (0, 0)
        refine rs_goto (t := 84) ri_208_80 rfl ?_
        refine rs_iret ri_208_84 rm_208.2.1 (by decide) ?_
        exact ⟨by unfold xf_208; first | (simp only [if_neg h1, if_neg h2, if_pos h3]; done) | rfl, by rfl⟩
    · have hp := hp.1 h2
      refine rs_aload_n ri_208_47 rfl rfl ?_
      refine rs_iload_n ri_208_48 rfl rfl ?_
      refine rs_virt (As := [.int v1]) (r := []) ri_208_49 rfl (by decide) rm_204.2.2.2 rm_204.2.2.1 rfl rfl rfl (by decide) (ro_kf (kd_163 hL)) (Nat.le_of_ble_eq_true rfl) (by decide) (by decide) (xs_204 (X := X) hL) ?_
      rintro _ _ ⟨e1, e2⟩
      rw [e1, e2]
      show ro_w X _ 208 _ 52 [(0, .ref 163), (1, .int v1), (2, .int v2)] [.int (ro_b (xf_204 M v1))] M (0, 0)
      refine rs_ifeq_c (t := 63) ri_208_52 rfl rfl (fun h5 => ?_) (fun h5 => ?_)
      · have hp := hp.2 h5
        refine rs_iconst (v := (-1 : Int32)) ri_208_63 rfl (by decide) ?_
        refine rs_iret ri_208_64 rm_208.2.1 (by decide) ?_
        exact ⟨by unfold xf_208; first | (simp only [if_neg h1, if_pos h2, if_neg h5]; done) | rfl, by rfl⟩
      · have hp := hp.1 h5
        refine rs_aload_n ri_208_55 rfl rfl ?_
        refine rs_iload_n ri_208_56 rfl rfl ?_
        obtain ⟨q5, hp⟩ := hp
        refine rs_virt (As := [.int v1]) (r := []) ri_208_57 rfl (by decide) rm_209.2.2.2 rm_209.2.2.1 rfl rfl rfl (by decide) (ro_kf (kd_163 hL)) (Nat.le_of_ble_eq_true rfl) (by decide) (by decide) (xs_209 (X := X) hL q5) ?_
        rintro _ _ ⟨e1, e2⟩
        rw [e1, e2]
        show ro_w X _ 208 _ 60 [(0, .ref 163), (1, .int v1), (2, .int v2)] [.int (xf_209 M v1)] M (0, 0)
        refine rs_goto (t := 64) ri_208_60 rfl ?_
        refine rs_iret ri_208_64 rm_208.2.1 (by decide) ?_
        exact ⟨by unfold xf_208; first | (simp only [if_neg h1, if_pos h2, if_pos h5]; done) | rfl, by rfl⟩
  · have hp := hp.1 h1
    refine rs_aload_n ri_208_6 rfl rfl ?_
    refine rs_iload_n ri_208_7 rfl rfl ?_
    refine rs_virt (As := [.int v1]) (r := []) ri_208_8 rfl (by decide) rm_204.2.2.2 rm_204.2.2.1 rfl rfl rfl (by decide) (ro_kf (kd_163 hL)) (Nat.le_of_ble_eq_true rfl) (by decide) (by decide) (xs_204 (X := X) hL) ?_
    rintro _ _ ⟨e1, e2⟩
    rw [e1, e2]
    show ro_w X _ 208 _ 11 [(0, .ref 163), (1, .int v1), (2, .int v2)] [.int (ro_b (xf_204 M v1))] M (0, 0)
    refine rs_ifeq_c (t := 39) ri_208_11 rfl rfl (fun h7 => ?_) (fun h7 => ?_)
    · have hp := hp.2 h7
      refine rs_iconst (v := (-1 : Int32)) ri_208_39 rfl (by decide) ?_
      refine rs_iret ri_208_40 rm_208.2.1 (by decide) ?_
      exact ⟨by unfold xf_208; first | (simp only [if_pos h1, if_neg h7]; done) | rfl, by rfl⟩
    · have hp := hp.1 h7
      refine rs_iconst (v := (4 : Int32)) ri_208_14 rfl (by decide) ?_
      refine rs_aload_n ri_208_15 rfl rfl ?_
      refine rs_gf (v := .ref 164) ri_208_16 rfl (by decide) (ro_kf (kd_163 hL)) rfl (rf_163_2 hL) ?_
      refine rs_iload_n ri_208_19 rfl rfl ?_
      obtain ⟨q7, hp⟩ := hp
      refine rs_iald (v := (M.2.1 164 (v1.toNatClampNeg))) ri_208_20 rfl (by decide) (kd_164 hL) q7 rfl ?_
      refine rs_imul (r := ((4 : Int32) * (M.2.1 164 (v1.toNatClampNeg)))) ri_208_21 rfl rfl ?_
      refine rs_aload_n ri_208_22 rfl rfl ?_
      refine rs_gf (v := .ref 168) ri_208_23 rfl (by decide) (ro_kf (kd_163 hL)) rfl (rf_163_6 hL) ?_
      refine rs_iconst (v := (0 : Int32)) ri_208_26 rfl (by decide) ?_
      refine rs_iald (v := (M.2.1 168 0)) ri_208_27 rfl (by decide) (kd_168 hL) (vp_in_iff.mpr ⟨by decide, by decide⟩) rfl ?_
      refine rs_aload_n ri_208_28 rfl rfl ?_
      refine rs_gf (v := .ref 165) ri_208_29 rfl (by decide) (ro_kf (kd_163 hL)) rfl (rf_163_3 hL) ?_
      refine rs_iload_n ri_208_32 rfl rfl ?_
      obtain ⟨q8, hp⟩ := hp
      refine rs_iald (v := (M.2.1 165 (v1.toNatClampNeg))) ri_208_33 rfl (by decide) (kd_165 hL) q8 rfl ?_
      refine rs_imul (r := ((M.2.1 168 0) * (M.2.1 165 (v1.toNatClampNeg)))) ri_208_34 rfl rfl ?_
      refine rs_iadd (r := (((4 : Int32) * (M.2.1 164 (v1.toNatClampNeg))) + ((M.2.1 168 0) * (M.2.1 165 (v1.toNatClampNeg))))) ri_208_35 rfl rfl ?_
      refine rs_goto (t := 40) ri_208_36 rfl ?_
      refine rs_iret ri_208_40 rm_208.2.1 (by decide) ?_
      exact ⟨by unfold xf_208; first | (simp only [if_pos h1, if_pos h7]; done) | rfl, by rfl⟩
/-- RefusedOnceModel.opens()Z -/
def xf_223 (M : ro_Mm) : Bool := (if (M.2.1 163 17) = (6 : Int32) then false else true)
def xm_223 (M : ro_Mm) : ro_Mm := (if (M.2.1 163 17) = (6 : Int32) then (xm_224 M) else (ro_sI (ro_sI M 163 17 ((M.2.1 163 17) + (1 : Int32))) 163 15 ((M.2.1 163 15) + (1 : Int32))))
theorem xs_223 {X : ro_Sx} {M : ro_Mm} (hL : ro_lay M) : ro_cwp X 2 223 [.ref 163] M (fun v M2 => v = some (.int (ro_b (xf_223 M))) ∧ M2 = xm_223 M) := by
  refine rs_begin (lv0 := [(0, .ref 163)]) (by decide) rfl (by rw [rm_223.1]; exact Nat.le_of_ble_eq_true rfl) rfl ?_
  refine rs_aload_n ri_223_0 rfl rfl ?_
  refine rs_gf (v := .int (M.2.1 163 17)) ri_223_1 rfl (by decide) (ro_kf (kd_163 hL)) rfl rfl ?_
  refine rs_bipush (v := (6 : Int32)) ri_223_4 rfl (by decide) ?_
  refine rs_icmp_ne (t := 15) ri_223_6 rfl rfl (fun h1 => ?_) (fun h1 => ?_)
  · skip
    refine rs_aload_n ri_223_15 rfl rfl ?_
    refine rs_dup ri_223_16 rfl rfl ?_
    refine rs_gf (v := .int (M.2.1 163 17)) ri_223_17 rfl (by decide) (ro_kf (kd_163 hL)) rfl rfl ?_
    refine rs_iconst (v := (1 : Int32)) ri_223_20 rfl (by decide) ?_
    refine rs_iadd (r := ((M.2.1 163 17) + (1 : Int32))) ri_223_21 rfl rfl ?_
    refine rs_pf (M2 := (ro_sI M 163 17 ((M.2.1 163 17) + (1 : Int32)))) ri_223_22 rfl (by decide) (ro_kf (kd_163 hL)) (fun h => absurd h (by decide)) (fun f h => h) ?_
    refine rs_aload_n ri_223_25 rfl rfl ?_
    refine rs_dup ri_223_26 rfl rfl ?_
    refine rs_gf (v := .int (M.2.1 163 15)) ri_223_27 rfl (by decide) (ro_kf (kd_163 hL)) rfl rfl ?_
    refine rs_iconst (v := (1 : Int32)) ri_223_30 rfl (by decide) ?_
    refine rs_iadd (r := ((M.2.1 163 15) + (1 : Int32))) ri_223_31 rfl rfl ?_
    refine rs_pf (M2 := (ro_sI (ro_sI M 163 17 ((M.2.1 163 17) + (1 : Int32))) 163 15 ((M.2.1 163 15) + (1 : Int32)))) ri_223_32 rfl (by decide) (ro_kf (kd_163 hL)) (fun h => absurd h (by decide)) (fun f h => h) ?_
    refine rs_iconst (v := (1 : Int32)) ri_223_35 rfl (by decide) ?_
    refine rs_zret (p := true) ri_223_36 rm_223.2.1 (by decide) rfl ?_
    exact ⟨by unfold xf_223; first | (simp only [if_neg h1]; done) | rfl, by unfold xm_223; first | (simp only [if_neg h1]; done) | rfl⟩
  · skip
    refine rs_aload_n ri_223_9 rfl rfl ?_
    refine rs_virt (As := []) (r := []) ri_223_10 rfl (by decide) rm_224.2.2.2 rm_224.2.2.1 rfl rfl rfl (by decide) (ro_kf (kd_163 hL)) (Nat.le_of_ble_eq_true rfl) (by decide) (by decide) (xs_224 (X := X) hL) ?_
    rintro _ _ ⟨e1, e2⟩
    rw [e1, e2]
    show ro_w X _ 223 _ 13 [(0, .ref 163)] [] (xm_224 M) (0, 0)
    refine rs_iconst (v := (0 : Int32)) ri_223_13 rfl (by decide) ?_
    refine rs_zret (p := false) ri_223_14 rm_223.2.1 (by decide) rfl ?_
    exact ⟨by unfold xf_223; first | (simp only [if_pos h1]; done) | rfl, by unfold xm_223; first | (simp only [if_pos h1]; done) | rfl⟩
theorem xl_223 {M : ro_Mm} (hL : ro_lay M) : ro_lay (xm_223 M) := by
  unfold xm_223
  by_cases hz : (M.2.1 163 17) = (6 : Int32)
  · skip
    rw [if_pos hz]
    exact (xl_224 hL)
  · skip
    rw [if_neg hz]
    exact hL
theorem xwI_223 {M : ro_Mm} {c j : Nat} (n0 : c ≠ 163) : (xm_223 M).2.1 c j = M.2.1 c j := by
  unfold xm_223
  by_cases hz : (M.2.1 163 17) = (6 : Int32)
  · rw [if_pos hz]
    first | done | exact (xwI_224 n0)
  · rw [if_neg hz]
    first | done | exact (((ro_sI_ne n0)).trans (ro_sI_ne n0))
theorem xwJ_223 {M : ro_Mm} {c j : Nat} : (xm_223 M).2.2.1 c j = M.2.2.1 c j := by
  unfold xm_223
  by_cases hz : (M.2.1 163 17) = (6 : Int32)
  · rw [if_pos hz]
    first | done | exact (xwJ_224)
  · rw [if_neg hz]
    first | done | exact rfl
/-- RefusedOnceModel.offering(II)I -/
def xf_285 (M : ro_Mm) (v1 : Int32) (v2 : Int32) : Int32 := (if (xf_286 M (M.2.1 188 (v1.toNatClampNeg)) (1 : Int32)) then ((xf_288 (xm_287 M (20 : Int32)) v1 v2) + (3 : Int32)) else (if (M.2.1 188 (v1.toNatClampNeg)) = (7 : Int32) then ((xf_289 (xm_287 M (81 : Int32)) v1 v2) - (1 : Int32)) else (if (M.2.1 188 (v1.toNatClampNeg)) = (6 : Int32) then (xf_289 M v1 v2) else (xf_288 M v1 v2))))
def xm_285 (M : ro_Mm) (v1 : Int32) (v2 : Int32) : ro_Mm := (if (xf_286 M (M.2.1 188 (v1.toNatClampNeg)) (1 : Int32)) then (xm_288 (xm_287 M (20 : Int32)) v1 v2) else (if (M.2.1 188 (v1.toNatClampNeg)) = (7 : Int32) then (xm_289 (xm_287 M (81 : Int32)) v1 v2) else (if (M.2.1 188 (v1.toNatClampNeg)) = (6 : Int32) then (xm_289 M v1 v2) else (xm_288 M v1 v2))))
def xp_285 (M : ro_Mm) (v1 : Int32) (v2 : Int32) : Prop := (vp_in v1 50 ∧ (((xf_286 M (M.2.1 188 (v1.toNatClampNeg)) (1 : Int32)) → (xp_287 M (20 : Int32) ∧ (xp_288 (xm_287 M (20 : Int32)) v1 v2 ∧ True))) ∧ (¬ ((xf_286 M (M.2.1 188 (v1.toNatClampNeg)) (1 : Int32))) → (vp_in v1 50 ∧ (((M.2.1 188 (v1.toNatClampNeg)) = (7 : Int32) → (xp_287 M (81 : Int32) ∧ (xp_289 (xm_287 M (81 : Int32)) v1 v2 ∧ True))) ∧ (¬ ((M.2.1 188 (v1.toNatClampNeg)) = (7 : Int32)) → (vp_in v1 50 ∧ (((M.2.1 188 (v1.toNatClampNeg)) = (6 : Int32) → (xp_289 M v1 v2 ∧ True)) ∧ (¬ ((M.2.1 188 (v1.toNatClampNeg)) = (6 : Int32)) → (xp_288 M v1 v2 ∧ True))))))))))
theorem xs_285 {X : ro_Sx} {M : ro_Mm} {v1 : Int32} {v2 : Int32} (hL : ro_lay M) (hp : xp_285 M v1 v2) : ro_cwp X 4 285 [.ref 163, .int v1, .int v2] M (fun v M2 => v = some (.int (xf_285 M v1 v2)) ∧ M2 = xm_285 M v1 v2) := by
  refine rs_begin (lv0 := [(0, .ref 163), (1, .int v1), (2, .int v2)]) (by decide) rfl (by rw [rm_285.1]; exact Nat.le_of_ble_eq_true rfl) rfl ?_
  unfold xp_285 at hp
  refine rs_aload_n ri_285_0 rfl rfl ?_
  refine rs_gf (v := .ref 188) ri_285_1 rfl (by decide) (ro_kf (kd_163 hL)) rfl (rf_163_50 hL) ?_
  refine rs_iload_n ri_285_4 rfl rfl ?_
  obtain ⟨q0, hp⟩ := hp
  refine rs_iald (v := (M.2.1 188 (v1.toNatClampNeg))) ri_285_5 rfl (by decide) (kd_188 hL) q0 rfl ?_
  refine rs_iconst (v := (1 : Int32)) ri_285_6 rfl (by decide) ?_
  refine rs_stat (As := [.int (M.2.1 188 (v1.toNatClampNeg)), .int (1 : Int32)]) (r := []) ri_285_7 rfl rm_286.2.2.2 rfl rfl rfl (Nat.le_of_ble_eq_true rfl) (by decide) (by decide) (xs_286 (X := X) hL) ?_
  rintro _ _ ⟨e1, e2⟩
  rw [e1, e2]
  show ro_w X _ 285 _ 10 [(0, .ref 163), (1, .int v1), (2, .int v2)] [.int (ro_b (xf_286 M (M.2.1 188 (v1.toNatClampNeg)) (1 : Int32)))] M (0, 0)
  refine rs_ifeq_c (t := 28) ri_285_10 rfl rfl (fun h2 => ?_) (fun h2 => ?_)
  · have hp := hp.2 h2
    refine rs_aload_n ri_285_28 rfl rfl ?_
    refine rs_gf (v := .ref 188) ri_285_29 rfl (by decide) (ro_kf (kd_163 hL)) rfl (rf_163_50 hL) ?_
    refine rs_iload_n ri_285_32 rfl rfl ?_
    obtain ⟨q2, hp⟩ := hp
    refine rs_iald (v := (M.2.1 188 (v1.toNatClampNeg))) ri_285_33 rfl (by decide) (kd_188 hL) q2 rfl ?_
    refine rs_bipush (v := (7 : Int32)) ri_285_34 rfl (by decide) ?_
    refine rs_icmp_ne (t := 54) ri_285_36 rfl rfl (fun h4 => ?_) (fun h4 => ?_)
    · have hp := hp.2 h4
      refine rs_aload_n ri_285_54 rfl rfl ?_
      refine rs_gf (v := .ref 188) ri_285_55 rfl (by decide) (ro_kf (kd_163 hL)) rfl (rf_163_50 hL) ?_
      refine rs_iload_n ri_285_58 rfl rfl ?_
      obtain ⟨q4, hp⟩ := hp
      refine rs_iald (v := (M.2.1 188 (v1.toNatClampNeg))) ri_285_59 rfl (by decide) (kd_188 hL) q4 rfl ?_
      refine rs_bipush (v := (6 : Int32)) ri_285_60 rfl (by decide) ?_
      refine rs_icmp_ne (t := 74) ri_285_62 rfl rfl (fun h6 => ?_) (fun h6 => ?_)
      · have hp := hp.2 h6
        refine rs_aload_n ri_285_74 rfl rfl ?_
        refine rs_iload_n ri_285_75 rfl rfl ?_
        refine rs_iload_n ri_285_76 rfl rfl ?_
        obtain ⟨q6, hp⟩ := hp
        refine rs_virt (As := [.int v1, .int v2]) (r := []) ri_285_77 rfl (by decide) rm_288.2.2.2 rm_288.2.2.1 rfl rfl rfl (by decide) (ro_kf (kd_163 hL)) (Nat.le_of_ble_eq_true rfl) (by decide) (by decide) (xs_288 (X := X) hL q6) ?_
        rintro _ _ ⟨e1, e2⟩
        rw [e1, e2]
        show ro_w X _ 285 _ 80 [(0, .ref 163), (1, .int v1), (2, .int v2)] [.int (xf_288 M v1 v2)] (xm_288 M v1 v2) (0, 0)
        refine rs_iret ri_285_80 rm_285.2.1 (by decide) ?_
        exact ⟨by unfold xf_285; first | (simp only [if_neg h2, if_neg h4, if_neg h6]; done) | rfl, by unfold xm_285; first | (simp only [if_neg h2, if_neg h4, if_neg h6]; done) | rfl⟩
      · have hp := hp.1 h6
        refine rs_aload_n ri_285_65 rfl rfl ?_
        refine rs_iload_n ri_285_66 rfl rfl ?_
        refine rs_iload_n ri_285_67 rfl rfl ?_
        obtain ⟨q7, hp⟩ := hp
        refine rs_virt (As := [.int v1, .int v2]) (r := []) ri_285_68 rfl (by decide) rm_289.2.2.2 rm_289.2.2.1 rfl rfl rfl (by decide) (ro_kf (kd_163 hL)) (Nat.le_of_ble_eq_true rfl) (by decide) (by decide) (xs_289 (X := X) hL q7) ?_
        rintro _ _ ⟨e1, e2⟩
        rw [e1, e2]
        show ro_w X _ 285 _ 71 [(0, .ref 163), (1, .int v1), (2, .int v2)] [.int (xf_289 M v1 v2)] (xm_289 M v1 v2) (0, 0)
        refine rs_goto (t := 80) ri_285_71 rfl ?_
        refine rs_iret ri_285_80 rm_285.2.1 (by decide) ?_
        exact ⟨by unfold xf_285; first | (simp only [if_neg h2, if_neg h4, if_pos h6]; done) | rfl, by unfold xm_285; first | (simp only [if_neg h2, if_neg h4, if_pos h6]; done) | rfl⟩
    · have hp := hp.1 h4
      refine rs_aload_n ri_285_39 rfl rfl ?_
      refine rs_bipush (v := (81 : Int32)) ri_285_40 rfl (by decide) ?_
      obtain ⟨q8, hp⟩ := hp
      refine rs_virt (As := [.int (81 : Int32)]) (r := []) ri_285_42 rfl (by decide) rm_287.2.2.2 rm_287.2.2.1 rfl rfl rfl (by decide) (ro_kf (kd_163 hL)) (Nat.le_of_ble_eq_true rfl) (by decide) (by decide) (xs_287 (X := X) hL q8) ?_
      rintro _ _ ⟨e1, e2⟩
      rw [e1, e2]
      show ro_w X _ 285 _ 45 [(0, .ref 163), (1, .int v1), (2, .int v2)] [] (xm_287 M (81 : Int32)) (0, 0)
      refine rs_aload_n ri_285_45 rfl rfl ?_
      refine rs_iload_n ri_285_46 rfl rfl ?_
      refine rs_iload_n ri_285_47 rfl rfl ?_
      obtain ⟨q9, hp⟩ := hp
      refine rs_virt (As := [.int v1, .int v2]) (r := []) ri_285_48 rfl (by decide) rm_289.2.2.2 rm_289.2.2.1 rfl rfl rfl (by decide) (ro_kf (kd_163 (xl_287 hL q8))) (Nat.le_of_ble_eq_true rfl) (by decide) (by decide) (xs_289 (X := X) (xl_287 hL q8) q9) ?_
      rintro _ _ ⟨e1, e2⟩
      rw [e1, e2]
      show ro_w X _ 285 _ 51 [(0, .ref 163), (1, .int v1), (2, .int v2)] [.int (xf_289 (xm_287 M (81 : Int32)) v1 v2)] (xm_289 (xm_287 M (81 : Int32)) v1 v2) (0, 0)
      refine rs_iconst (v := (1 : Int32)) ri_285_51 rfl (by decide) ?_
      refine rs_isub (r := ((xf_289 (xm_287 M (81 : Int32)) v1 v2) - (1 : Int32))) ri_285_52 rfl rfl ?_
      refine rs_iret ri_285_53 rm_285.2.1 (by decide) ?_
      exact ⟨by unfold xf_285; first | (simp only [if_neg h2, if_pos h4]; done) | rfl, by unfold xm_285; first | (simp only [if_neg h2, if_pos h4]; done) | rfl⟩
  · have hp := hp.1 h2
    refine rs_aload_n ri_285_13 rfl rfl ?_
    refine rs_bipush (v := (20 : Int32)) ri_285_14 rfl (by decide) ?_
    obtain ⟨q10, hp⟩ := hp
    refine rs_virt (As := [.int (20 : Int32)]) (r := []) ri_285_16 rfl (by decide) rm_287.2.2.2 rm_287.2.2.1 rfl rfl rfl (by decide) (ro_kf (kd_163 hL)) (Nat.le_of_ble_eq_true rfl) (by decide) (by decide) (xs_287 (X := X) hL q10) ?_
    rintro _ _ ⟨e1, e2⟩
    rw [e1, e2]
    show ro_w X _ 285 _ 19 [(0, .ref 163), (1, .int v1), (2, .int v2)] [] (xm_287 M (20 : Int32)) (0, 0)
    refine rs_aload_n ri_285_19 rfl rfl ?_
    refine rs_iload_n ri_285_20 rfl rfl ?_
    refine rs_iload_n ri_285_21 rfl rfl ?_
    obtain ⟨q11, hp⟩ := hp
    refine rs_virt (As := [.int v1, .int v2]) (r := []) ri_285_22 rfl (by decide) rm_288.2.2.2 rm_288.2.2.1 rfl rfl rfl (by decide) (ro_kf (kd_163 (xl_287 hL q10))) (Nat.le_of_ble_eq_true rfl) (by decide) (by decide) (xs_288 (X := X) (xl_287 hL q10) q11) ?_
    rintro _ _ ⟨e1, e2⟩
    rw [e1, e2]
    show ro_w X _ 285 _ 25 [(0, .ref 163), (1, .int v1), (2, .int v2)] [.int (xf_288 (xm_287 M (20 : Int32)) v1 v2)] (xm_288 (xm_287 M (20 : Int32)) v1 v2) (0, 0)
    refine rs_iconst (v := (3 : Int32)) ri_285_25 rfl (by decide) ?_
    refine rs_iadd (r := ((xf_288 (xm_287 M (20 : Int32)) v1 v2) + (3 : Int32))) ri_285_26 rfl rfl ?_
    refine rs_iret ri_285_27 rm_285.2.1 (by decide) ?_
    exact ⟨by unfold xf_285; first | (simp only [if_pos h2]; done) | rfl, by unfold xm_285; first | (simp only [if_pos h2]; done) | rfl⟩
theorem xl_285 {M : ro_Mm} {v1 : Int32} {v2 : Int32} (hL : ro_lay M) (hp : xp_285 M v1 v2) : ro_lay (xm_285 M v1 v2) := by
  unfold xp_285 at hp
  unfold xm_285
  obtain ⟨q0, hp⟩ := hp
  by_cases hz : (xf_286 M (M.2.1 188 (v1.toNatClampNeg)) (1 : Int32))
  · have hp := hp.1 hz
    rw [if_pos hz]
    obtain ⟨q10, hp⟩ := hp
    obtain ⟨q11, hp⟩ := hp
    exact (xl_288 (xl_287 hL q10) q11)
  · have hp := hp.2 hz
    rw [if_neg hz]
    obtain ⟨q2, hp⟩ := hp
    by_cases hz : (M.2.1 188 (v1.toNatClampNeg)) = (7 : Int32)
    · have hp := hp.1 hz
      rw [if_pos hz]
      obtain ⟨q8, hp⟩ := hp
      obtain ⟨q9, hp⟩ := hp
      exact (xl_289 (xl_287 hL q8) q9)
    · have hp := hp.2 hz
      rw [if_neg hz]
      obtain ⟨q4, hp⟩ := hp
      by_cases hz : (M.2.1 188 (v1.toNatClampNeg)) = (6 : Int32)
      · have hp := hp.1 hz
        rw [if_pos hz]
        obtain ⟨q7, hp⟩ := hp
        exact (xl_289 hL q7)
      · have hp := hp.2 hz
        rw [if_neg hz]
        obtain ⟨q6, hp⟩ := hp
        exact (xl_288 hL q6)
theorem xwI_285 {M : ro_Mm} {v1 : Int32} {v2 : Int32} {c j : Nat} (n0 : c ≠ 163) (n1 : c ≠ 189) : (xm_285 M v1 v2).2.1 c j = M.2.1 c j := by
  unfold xm_285
  by_cases hz : (xf_286 M (M.2.1 188 (v1.toNatClampNeg)) (1 : Int32))
  · rw [if_pos hz]
    first | done | exact (((xwI_288 n0 n1)).trans (xwI_287 n0 n1))
  · rw [if_neg hz]
    by_cases hz : (M.2.1 188 (v1.toNatClampNeg)) = (7 : Int32)
    · rw [if_pos hz]
      first | done | exact (((xwI_289 n0 n1)).trans (xwI_287 n0 n1))
    · rw [if_neg hz]
      by_cases hz : (M.2.1 188 (v1.toNatClampNeg)) = (6 : Int32)
      · rw [if_pos hz]
        first | done | exact (xwI_289 n0 n1)
      · rw [if_neg hz]
        first | done | exact (xwI_288 n0 n1)
theorem xwJ_285 {M : ro_Mm} {v1 : Int32} {v2 : Int32} {c j : Nat} : (xm_285 M v1 v2).2.2.1 c j = M.2.2.1 c j := by
  unfold xm_285
  by_cases hz : (xf_286 M (M.2.1 188 (v1.toNatClampNeg)) (1 : Int32))
  · rw [if_pos hz]
    first | done | exact (((xwJ_288)).trans (xwJ_287))
  · rw [if_neg hz]
    by_cases hz : (M.2.1 188 (v1.toNatClampNeg)) = (7 : Int32)
    · rw [if_pos hz]
      first | done | exact (((xwJ_289)).trans (xwJ_287))
    · rw [if_neg hz]
      by_cases hz : (M.2.1 188 (v1.toNatClampNeg)) = (6 : Int32)
      · rw [if_pos hz]
        first | done | exact (xwJ_289)
      · rw [if_neg hz]
        first | done | exact (xwJ_288)
/-- RefusedOnceModel.plainNotches(II)I -/
def xf_292 (M : ro_Mm) (v1 : Int32) (v2 : Int32) : Int32 := ((xf_285 (xm_287 M (10 : Int32)) v1 v2) * (2 : Int32))
def xm_292 (M : ro_Mm) (v1 : Int32) (v2 : Int32) : ro_Mm := (xm_285 (xm_287 M (10 : Int32)) v1 v2)
def xp_292 (M : ro_Mm) (v1 : Int32) (v2 : Int32) : Prop := (xp_287 M (10 : Int32) ∧ (xp_285 (xm_287 M (10 : Int32)) v1 v2 ∧ True))
theorem xs_292 {X : ro_Sx} {M : ro_Mm} {v1 : Int32} {v2 : Int32} (hL : ro_lay M) (hp : xp_292 M v1 v2) : ro_cwp X 5 292 [.ref 163, .int v1, .int v2] M (fun v M2 => v = some (.int (xf_292 M v1 v2)) ∧ M2 = xm_292 M v1 v2) := by
  refine rs_begin (lv0 := [(0, .ref 163), (1, .int v1), (2, .int v2)]) (by decide) rfl (by rw [rm_292.1]; exact Nat.le_of_ble_eq_true rfl) rfl ?_
  unfold xp_292 at hp
  refine rs_aload_n ri_292_0 rfl rfl ?_
  refine rs_bipush (v := (10 : Int32)) ri_292_1 rfl (by decide) ?_
  obtain ⟨q0, hp⟩ := hp
  refine rs_virt (As := [.int (10 : Int32)]) (r := []) ri_292_3 rfl (by decide) rm_287.2.2.2 rm_287.2.2.1 rfl rfl rfl (by decide) (ro_kf (kd_163 hL)) (Nat.le_of_ble_eq_true rfl) (by decide) (by decide) (xs_287 (X := X) hL q0) ?_
  rintro _ _ ⟨e1, e2⟩
  rw [e1, e2]
  show ro_w X _ 292 _ 6 [(0, .ref 163), (1, .int v1), (2, .int v2)] [] (xm_287 M (10 : Int32)) (0, 0)
  refine rs_aload_n ri_292_6 rfl rfl ?_
  refine rs_iload_n ri_292_7 rfl rfl ?_
  refine rs_iload_n ri_292_8 rfl rfl ?_
  obtain ⟨q1, hp⟩ := hp
  refine rs_virt (As := [.int v1, .int v2]) (r := []) ri_292_9 rfl (by decide) rm_285.2.2.2 rm_285.2.2.1 rfl rfl rfl (by decide) (ro_kf (kd_163 (xl_287 hL q0))) (Nat.le_of_ble_eq_true rfl) (by decide) (by decide) (xs_285 (X := X) (xl_287 hL q0) q1) ?_
  rintro _ _ ⟨e1, e2⟩
  rw [e1, e2]
  show ro_w X _ 292 _ 12 [(0, .ref 163), (1, .int v1), (2, .int v2)] [.int (xf_285 (xm_287 M (10 : Int32)) v1 v2)] (xm_285 (xm_287 M (10 : Int32)) v1 v2) (0, 0)
  refine rs_iconst (v := (2 : Int32)) ri_292_12 rfl (by decide) ?_
  refine rs_imul (r := ((xf_285 (xm_287 M (10 : Int32)) v1 v2) * (2 : Int32))) ri_292_13 rfl rfl ?_
  refine rs_iret ri_292_14 rm_292.2.1 (by decide) ?_
  exact ⟨by rfl, by rfl⟩
theorem xl_292 {M : ro_Mm} {v1 : Int32} {v2 : Int32} (hL : ro_lay M) (hp : xp_292 M v1 v2) : ro_lay (xm_292 M v1 v2) := by
  unfold xp_292 at hp
  unfold xm_292
  obtain ⟨q0, hp⟩ := hp
  obtain ⟨q1, hp⟩ := hp
  exact (xl_285 (xl_287 hL q0) q1)
theorem xwI_292 {M : ro_Mm} {v1 : Int32} {v2 : Int32} {c j : Nat} (n0 : c ≠ 163) (n1 : c ≠ 189) : (xm_292 M v1 v2).2.1 c j = M.2.1 c j := by
  unfold xm_292
  first | done | exact (((xwI_285 n0 n1)).trans (xwI_287 n0 n1))
theorem xwJ_292 {M : ro_Mm} {v1 : Int32} {v2 : Int32} {c j : Nat} : (xm_292 M v1 v2).2.2.1 c j = M.2.2.1 c j := by
  unfold xm_292
  first | done | exact (((xwJ_285)).trans (xwJ_287))
/-- RefusedOnceModel.childTakes(II)I -/
def xf_294 (M : ro_Mm) (v1 : Int32) (v2 : Int32) : Int32 := ((xf_295 (xm_287 M (40 : Int32)) v1 v2) * (3 : Int32))
def xm_294 (M : ro_Mm) (v1 : Int32) (v2 : Int32) : ro_Mm := (xm_295 (xm_287 M (40 : Int32)) v1 v2)
def xp_294 (M : ro_Mm) (v1 : Int32) (v2 : Int32) : Prop := (xp_287 M (40 : Int32) ∧ (xp_295 (xm_287 M (40 : Int32)) v1 v2 ∧ True))
theorem xs_294 {X : ro_Sx} {M : ro_Mm} {v1 : Int32} {v2 : Int32} (hL : ro_lay M) (hp : xp_294 M v1 v2) : ro_cwp X 3 294 [.ref 163, .int v1, .int v2] M (fun v M2 => v = some (.int (xf_294 M v1 v2)) ∧ M2 = xm_294 M v1 v2) := by
  refine rs_begin (lv0 := [(0, .ref 163), (1, .int v1), (2, .int v2)]) (by decide) rfl (by rw [rm_294.1]; exact Nat.le_of_ble_eq_true rfl) rfl ?_
  unfold xp_294 at hp
  refine rs_aload_n ri_294_0 rfl rfl ?_
  refine rs_bipush (v := (40 : Int32)) ri_294_1 rfl (by decide) ?_
  obtain ⟨q0, hp⟩ := hp
  refine rs_virt (As := [.int (40 : Int32)]) (r := []) ri_294_3 rfl (by decide) rm_287.2.2.2 rm_287.2.2.1 rfl rfl rfl (by decide) (ro_kf (kd_163 hL)) (Nat.le_of_ble_eq_true rfl) (by decide) (by decide) (xs_287 (X := X) hL q0) ?_
  rintro _ _ ⟨e1, e2⟩
  rw [e1, e2]
  show ro_w X _ 294 _ 6 [(0, .ref 163), (1, .int v1), (2, .int v2)] [] (xm_287 M (40 : Int32)) (0, 0)
  refine rs_aload_n ri_294_6 rfl rfl ?_
  refine rs_iload_n ri_294_7 rfl rfl ?_
  refine rs_iload_n ri_294_8 rfl rfl ?_
  obtain ⟨q1, hp⟩ := hp
  refine rs_virt (As := [.int v1, .int v2]) (r := []) ri_294_9 rfl (by decide) rm_295.2.2.2 rm_295.2.2.1 rfl rfl rfl (by decide) (ro_kf (kd_163 (xl_287 hL q0))) (Nat.le_of_ble_eq_true rfl) (by decide) (by decide) (xs_295 (X := X) (xl_287 hL q0) q1) ?_
  rintro _ _ ⟨e1, e2⟩
  rw [e1, e2]
  show ro_w X _ 294 _ 12 [(0, .ref 163), (1, .int v1), (2, .int v2)] [.int (xf_295 (xm_287 M (40 : Int32)) v1 v2)] (xm_295 (xm_287 M (40 : Int32)) v1 v2) (0, 0)
  refine rs_iconst (v := (3 : Int32)) ri_294_12 rfl (by decide) ?_
  refine rs_imul (r := ((xf_295 (xm_287 M (40 : Int32)) v1 v2) * (3 : Int32))) ri_294_13 rfl rfl ?_
  refine rs_iret ri_294_14 rm_294.2.1 (by decide) ?_
  exact ⟨by rfl, by rfl⟩
theorem xl_294 {M : ro_Mm} {v1 : Int32} {v2 : Int32} (hL : ro_lay M) (hp : xp_294 M v1 v2) : ro_lay (xm_294 M v1 v2) := by
  unfold xp_294 at hp
  unfold xm_294
  obtain ⟨q0, hp⟩ := hp
  obtain ⟨q1, hp⟩ := hp
  exact (xl_295 (xl_287 hL q0) q1)
theorem xwI_294 {M : ro_Mm} {v1 : Int32} {v2 : Int32} {c j : Nat} (n0 : c ≠ 163) (n1 : c ≠ 189) : (xm_294 M v1 v2).2.1 c j = M.2.1 c j := by
  unfold xm_294
  first | done | exact (((xwI_295 n0 n1)).trans (xwI_287 n0 n1))
theorem xwJ_294 {M : ro_Mm} {v1 : Int32} {v2 : Int32} {c j : Nat} : (xm_294 M v1 v2).2.2.1 c j = M.2.2.1 c j := by
  unfold xm_294
  first | done | exact (((xwJ_295)).trans (xwJ_287))
/-- RefusedOnceModel.put(IIJ)I -/
def xf_302 (M : ro_Mm) (v1 : Int32) (v2 : Int32) (v3 : Int64) : Int32 := (if (0 : Int32) ≤ (xf_303 M v1 v2) then (1 : Int32) else (xf_303 M v1 v2))
def xm_302 (M : ro_Mm) (v1 : Int32) (v2 : Int32) (v3 : Int64) : ro_Mm := (if (0 : Int32) ≤ (xf_303 M v1 v2) then (if ((-2 : Int32) - (M.2.1 190 (v1.toNatClampNeg))) = (0 : Int32) then (ro_sJ M 192 ((((60 : Int32) * v1) + v2).toNatClampNeg) (((v3.toInt32).toInt8.toInt32).toInt64)) else (if ((-2 : Int32) - (M.2.1 190 (v1.toNatClampNeg))) = (1 : Int32) then (ro_sJ M 192 ((((60 : Int32) * v1) + v2).toNatClampNeg) (((v3.toInt32).toInt16.toInt32).toInt64)) else (if ((-2 : Int32) - (M.2.1 190 (v1.toNatClampNeg))) = (2 : Int32) then (ro_sJ M 192 ((((60 : Int32) * v1) + v2).toNatClampNeg) ((v3.toInt32).toInt64)) else (if ((-2 : Int32) - (M.2.1 190 (v1.toNatClampNeg))) = (3 : Int32) then (ro_sJ M 192 ((((60 : Int32) * v1) + v2).toNatClampNeg) v3) else (if (lg_cmp v3 (0 : Int64)) = (0 : Int32) then (ro_sJ M 192 ((((60 : Int32) * v1) + v2).toNatClampNeg) (0 : Int64)) else (ro_sJ M 192 ((((60 : Int32) * v1) + v2).toNatClampNeg) (1 : Int64))))))) else M)
def xp_302 (M : ro_Mm) (v1 : Int32) (v2 : Int32) (v3 : Int64) : Prop := (xp_303 M v1 v2 ∧ (((0 : Int32) ≤ (xf_303 M v1 v2) → (vp_in v1 6 ∧ ((((-2 : Int32) - (M.2.1 190 (v1.toNatClampNeg))) = (0 : Int32) → (vp_in (((60 : Int32) * v1) + v2) 360 ∧ True)) ∧ (¬ (((-2 : Int32) - (M.2.1 190 (v1.toNatClampNeg))) = (0 : Int32)) → ((((-2 : Int32) - (M.2.1 190 (v1.toNatClampNeg))) = (1 : Int32) → (vp_in (((60 : Int32) * v1) + v2) 360 ∧ True)) ∧ (¬ (((-2 : Int32) - (M.2.1 190 (v1.toNatClampNeg))) = (1 : Int32)) → ((((-2 : Int32) - (M.2.1 190 (v1.toNatClampNeg))) = (2 : Int32) → (vp_in (((60 : Int32) * v1) + v2) 360 ∧ True)) ∧ (¬ (((-2 : Int32) - (M.2.1 190 (v1.toNatClampNeg))) = (2 : Int32)) → ((((-2 : Int32) - (M.2.1 190 (v1.toNatClampNeg))) = (3 : Int32) → (vp_in (((60 : Int32) * v1) + v2) 360 ∧ True)) ∧ (¬ (((-2 : Int32) - (M.2.1 190 (v1.toNatClampNeg))) = (3 : Int32)) → (((lg_cmp v3 (0 : Int64)) = (0 : Int32) → (vp_in (((60 : Int32) * v1) + v2) 360 ∧ True)) ∧ (¬ ((lg_cmp v3 (0 : Int64)) = (0 : Int32)) → (vp_in (((60 : Int32) * v1) + v2) 360 ∧ True))))))))))))) ∧ (¬ ((0 : Int32) ≤ (xf_303 M v1 v2)) → True)))
theorem xs_302 {X : ro_Sx} {M : ro_Mm} {v1 : Int32} {v2 : Int32} {v3 : Int64} (hL : ro_lay M) (hp : xp_302 M v1 v2 v3) : ro_cwp X 4 302 [.ref 163, .int v1, .int v2, .long v3] M (fun v M2 => v = some (.int (xf_302 M v1 v2 v3)) ∧ M2 = xm_302 M v1 v2 v3) := by
  refine rs_begin (lv0 := [(0, .ref 163), (1, .int v1), (2, .int v2), (3, .long v3)]) (by decide) rfl (by rw [rm_302.1]; exact Nat.le_of_ble_eq_true rfl) rfl ?_
  unfold xp_302 at hp
  refine rs_aload_n ri_302_0 rfl rfl ?_
  refine rs_iload_n ri_302_1 rfl rfl ?_
  refine rs_iload_n ri_302_2 rfl rfl ?_
  obtain ⟨q0, hp⟩ := hp
  refine rs_virt (As := [.int v1, .int v2]) (r := []) ri_302_3 rfl (by decide) rm_303.2.2.2 rm_303.2.2.1 rfl rfl rfl (by decide) (ro_kf (kd_163 hL)) (Nat.le_of_ble_eq_true rfl) (by decide) (by decide) (xs_303 (X := X) hL q0) ?_
  rintro _ _ ⟨e1, e2⟩
  rw [e1, e2]
  show ro_w X _ 302 _ 6 [(0, .ref 163), (1, .int v1), (2, .int v2), (3, .long v3)] [.int (xf_303 M v1 v2)] M (0, 0)
  refine rs_istore (lv2 := [(5, .int (xf_303 M v1 v2)), (0, .ref 163), (1, .int v1), (2, .int v2), (3, .long v3)]) ri_302_6 rfl rm_302.1 (by decide) rfl ?_
  refine rs_iload ri_302_8 rfl rfl ?_
  refine rs_if_ge (t := 16) ri_302_10 rfl rfl (fun h2 => ?_) (fun h2 => ?_)
  · have hp := hp.1 h2
    refine rs_bipush (v := (-2 : Int32)) ri_302_16 rfl (by decide) ?_
    refine rs_aload_n ri_302_18 rfl rfl ?_
    refine rs_gf (v := .ref 190) ri_302_19 rfl (by decide) (ro_kf (kd_163 hL)) rfl (rf_163_53 hL) ?_
    refine rs_iload_n ri_302_22 rfl rfl ?_
    obtain ⟨q2, hp⟩ := hp
    refine rs_iald (v := (M.2.1 190 (v1.toNatClampNeg))) ri_302_23 rfl (by decide) (kd_190 hL) q2 rfl ?_
    refine rs_isub (r := ((-2 : Int32) - (M.2.1 190 (v1.toNatClampNeg)))) ri_302_24 rfl rfl ?_
    refine rs_istore (lv2 := [(6, .int ((-2 : Int32) - (M.2.1 190 (v1.toNatClampNeg)))), (5, .int (xf_303 M v1 v2)), (0, .ref 163), (1, .int v1), (2, .int v2), (3, .long v3)]) ri_302_25 rfl rm_302.1 (by decide) rfl ?_
    refine rs_aload_n ri_302_27 rfl rfl ?_
    refine rs_gf (v := .ref 192) ri_302_28 rfl (by decide) (ro_kf (kd_163 hL)) rfl (rf_163_55 hL) ?_
    refine rs_bipush (v := (60 : Int32)) ri_302_31 rfl (by decide) ?_
    refine rs_iload_n ri_302_33 rfl rfl ?_
    refine rs_imul (r := ((60 : Int32) * v1)) ri_302_34 rfl rfl ?_
    refine rs_iload_n ri_302_35 rfl rfl ?_
    refine rs_iadd (r := (((60 : Int32) * v1) + v2)) ri_302_36 rfl rfl ?_
    refine rs_iload ri_302_37 rfl rfl ?_
    refine rs_if_ne (t := 49) ri_302_39 rfl rfl (fun h4 => ?_) (fun h4 => ?_)
    · have hp := hp.2 h4
      refine rs_iload ri_302_49 rfl rfl ?_
      refine rs_iconst (v := (1 : Int32)) ri_302_51 rfl (by decide) ?_
      refine rs_icmp_ne (t := 62) ri_302_52 rfl rfl (fun h5 => ?_) (fun h5 => ?_)
      · have hp := hp.2 h5
        refine rs_iload ri_302_62 rfl rfl ?_
        refine rs_iconst (v := (2 : Int32)) ri_302_64 rfl (by decide) ?_
        refine rs_icmp_ne (t := 74) ri_302_65 rfl rfl (fun h6 => ?_) (fun h6 => ?_)
        · have hp := hp.2 h6
          refine rs_iload ri_302_74 rfl rfl ?_
          refine rs_iconst (v := (3 : Int32)) ri_302_76 rfl (by decide) ?_
          refine rs_icmp_ne (t := 84) ri_302_77 rfl rfl (fun h7 => ?_) (fun h7 => ?_)
          · have hp := hp.2 h7
            refine rs_lload_n ri_302_84 rfl rfl ?_
            refine rs_lconst (v := (0 : Int64)) ri_302_85 rfl rfl ?_
            refine rs_lcmp (r := (lg_cmp v3 (0 : Int64))) ri_302_86 rfl rfl ?_
            refine rs_if_eq (t := 94) ri_302_87 rfl rfl (fun h8 => ?_) (fun h8 => ?_)
            · have hp := hp.1 h8
              refine rs_lconst (v := (0 : Int64)) ri_302_94 rfl rfl ?_
              obtain ⟨q8, hp⟩ := hp
              refine rs_last (j := (((60 : Int32) * v1) + v2).toNatClampNeg) ri_302_95 rfl (by decide) (kd_192 hL) q8 rfl ?_
              refine rs_iconst (v := (1 : Int32)) ri_302_96 rfl (by decide) ?_
              refine rs_iret ri_302_97 rm_302.2.1 (by decide) ?_
              exact ⟨by unfold xf_302; first | (simp only [if_pos h2, if_neg h4, if_neg h5, if_neg h6, if_neg h7, if_pos h8]; done) | rfl, by unfold xm_302; first | (simp only [if_pos h2, if_neg h4, if_neg h5, if_neg h6, if_neg h7, if_pos h8]; done) | rfl⟩
            · have hp := hp.2 h8
              refine rs_lconst (v := (1 : Int64)) ri_302_90 rfl rfl ?_
              refine rs_goto (t := 95) ri_302_91 rfl ?_
              obtain ⟨q9, hp⟩ := hp
              refine rs_last (j := (((60 : Int32) * v1) + v2).toNatClampNeg) ri_302_95 rfl (by decide) (kd_192 hL) q9 rfl ?_
              refine rs_iconst (v := (1 : Int32)) ri_302_96 rfl (by decide) ?_
              refine rs_iret ri_302_97 rm_302.2.1 (by decide) ?_
              exact ⟨by unfold xf_302; first | (simp only [if_pos h2, if_neg h4, if_neg h5, if_neg h6, if_neg h7, if_neg h8]; done) | rfl, by unfold xm_302; first | (simp only [if_pos h2, if_neg h4, if_neg h5, if_neg h6, if_neg h7, if_neg h8]; done) | rfl⟩
          · have hp := hp.1 h7
            refine rs_lload_n ri_302_80 rfl rfl ?_
            refine rs_goto (t := 95) ri_302_81 rfl ?_
            obtain ⟨q10, hp⟩ := hp
            refine rs_last (j := (((60 : Int32) * v1) + v2).toNatClampNeg) ri_302_95 rfl (by decide) (kd_192 hL) q10 rfl ?_
            refine rs_iconst (v := (1 : Int32)) ri_302_96 rfl (by decide) ?_
            refine rs_iret ri_302_97 rm_302.2.1 (by decide) ?_
            exact ⟨by unfold xf_302; first | (simp only [if_pos h2, if_neg h4, if_neg h5, if_neg h6, if_pos h7]; done) | rfl, by unfold xm_302; first | (simp only [if_pos h2, if_neg h4, if_neg h5, if_neg h6, if_pos h7]; done) | rfl⟩
        · have hp := hp.1 h6
          refine rs_lload_n ri_302_68 rfl rfl ?_
          refine rs_l2i (r := (v3.toInt32)) ri_302_69 rfl rfl ?_
          refine rs_i2l (r := ((v3.toInt32).toInt64)) ri_302_70 rfl rfl ?_
          refine rs_goto (t := 95) ri_302_71 rfl ?_
          obtain ⟨q11, hp⟩ := hp
          refine rs_last (j := (((60 : Int32) * v1) + v2).toNatClampNeg) ri_302_95 rfl (by decide) (kd_192 hL) q11 rfl ?_
          refine rs_iconst (v := (1 : Int32)) ri_302_96 rfl (by decide) ?_
          refine rs_iret ri_302_97 rm_302.2.1 (by decide) ?_
          exact ⟨by unfold xf_302; first | (simp only [if_pos h2, if_neg h4, if_neg h5, if_pos h6]; done) | rfl, by unfold xm_302; first | (simp only [if_pos h2, if_neg h4, if_neg h5, if_pos h6]; done) | rfl⟩
      · have hp := hp.1 h5
        refine rs_lload_n ri_302_55 rfl rfl ?_
        refine rs_l2i (r := (v3.toInt32)) ri_302_56 rfl rfl ?_
        refine rs_i2s (r := ((v3.toInt32).toInt16.toInt32)) ri_302_57 rfl rfl ?_
        refine rs_i2l (r := (((v3.toInt32).toInt16.toInt32).toInt64)) ri_302_58 rfl rfl ?_
        refine rs_goto (t := 95) ri_302_59 rfl ?_
        obtain ⟨q12, hp⟩ := hp
        refine rs_last (j := (((60 : Int32) * v1) + v2).toNatClampNeg) ri_302_95 rfl (by decide) (kd_192 hL) q12 rfl ?_
        refine rs_iconst (v := (1 : Int32)) ri_302_96 rfl (by decide) ?_
        refine rs_iret ri_302_97 rm_302.2.1 (by decide) ?_
        exact ⟨by unfold xf_302; first | (simp only [if_pos h2, if_neg h4, if_pos h5]; done) | rfl, by unfold xm_302; first | (simp only [if_pos h2, if_neg h4, if_pos h5]; done) | rfl⟩
    · have hp := hp.1 h4
      refine rs_lload_n ri_302_42 rfl rfl ?_
      refine rs_l2i (r := (v3.toInt32)) ri_302_43 rfl rfl ?_
      refine rs_i2b (r := ((v3.toInt32).toInt8.toInt32)) ri_302_44 rfl rfl ?_
      refine rs_i2l (r := (((v3.toInt32).toInt8.toInt32).toInt64)) ri_302_45 rfl rfl ?_
      refine rs_goto (t := 95) ri_302_46 rfl ?_
      obtain ⟨q13, hp⟩ := hp
      refine rs_last (j := (((60 : Int32) * v1) + v2).toNatClampNeg) ri_302_95 rfl (by decide) (kd_192 hL) q13 rfl ?_
      refine rs_iconst (v := (1 : Int32)) ri_302_96 rfl (by decide) ?_
      refine rs_iret ri_302_97 rm_302.2.1 (by decide) ?_
      exact ⟨by unfold xf_302; first | (simp only [if_pos h2, if_pos h4]; done) | rfl, by unfold xm_302; first | (simp only [if_pos h2, if_pos h4]; done) | rfl⟩
  · have hp := hp.2 h2
    refine rs_iload ri_302_13 rfl rfl ?_
    refine rs_iret ri_302_15 rm_302.2.1 (by decide) ?_
    exact ⟨by unfold xf_302; first | (simp only [if_neg h2]; done) | rfl, by unfold xm_302; first | (simp only [if_neg h2]; done) | rfl⟩
theorem xl_302 {M : ro_Mm} {v1 : Int32} {v2 : Int32} {v3 : Int64} (hL : ro_lay M) (hp : xp_302 M v1 v2 v3) : ro_lay (xm_302 M v1 v2 v3) := by
  unfold xp_302 at hp
  unfold xm_302
  obtain ⟨q0, hp⟩ := hp
  by_cases hz : (0 : Int32) ≤ (xf_303 M v1 v2)
  · have hp := hp.1 hz
    rw [if_pos hz]
    obtain ⟨q2, hp⟩ := hp
    by_cases hz : ((-2 : Int32) - (M.2.1 190 (v1.toNatClampNeg))) = (0 : Int32)
    · have hp := hp.1 hz
      rw [if_pos hz]
      obtain ⟨q13, hp⟩ := hp
      exact hL
    · have hp := hp.2 hz
      rw [if_neg hz]
      by_cases hz : ((-2 : Int32) - (M.2.1 190 (v1.toNatClampNeg))) = (1 : Int32)
      · have hp := hp.1 hz
        rw [if_pos hz]
        obtain ⟨q12, hp⟩ := hp
        exact hL
      · have hp := hp.2 hz
        rw [if_neg hz]
        by_cases hz : ((-2 : Int32) - (M.2.1 190 (v1.toNatClampNeg))) = (2 : Int32)
        · have hp := hp.1 hz
          rw [if_pos hz]
          obtain ⟨q11, hp⟩ := hp
          exact hL
        · have hp := hp.2 hz
          rw [if_neg hz]
          by_cases hz : ((-2 : Int32) - (M.2.1 190 (v1.toNatClampNeg))) = (3 : Int32)
          · have hp := hp.1 hz
            rw [if_pos hz]
            obtain ⟨q10, hp⟩ := hp
            exact hL
          · have hp := hp.2 hz
            rw [if_neg hz]
            by_cases hz : (lg_cmp v3 (0 : Int64)) = (0 : Int32)
            · have hp := hp.1 hz
              rw [if_pos hz]
              obtain ⟨q8, hp⟩ := hp
              exact hL
            · have hp := hp.2 hz
              rw [if_neg hz]
              obtain ⟨q9, hp⟩ := hp
              exact hL
  · have hp := hp.2 hz
    rw [if_neg hz]
    exact hL
theorem xwI_302 {M : ro_Mm} {v1 : Int32} {v2 : Int32} {v3 : Int64} {c j : Nat} : (xm_302 M v1 v2 v3).2.1 c j = M.2.1 c j := by
  unfold xm_302
  by_cases hz : (0 : Int32) ≤ (xf_303 M v1 v2)
  · rw [if_pos hz]
    by_cases hz : ((-2 : Int32) - (M.2.1 190 (v1.toNatClampNeg))) = (0 : Int32)
    · rw [if_pos hz]
      first | done | exact rfl
    · rw [if_neg hz]
      by_cases hz : ((-2 : Int32) - (M.2.1 190 (v1.toNatClampNeg))) = (1 : Int32)
      · rw [if_pos hz]
        first | done | exact rfl
      · rw [if_neg hz]
        by_cases hz : ((-2 : Int32) - (M.2.1 190 (v1.toNatClampNeg))) = (2 : Int32)
        · rw [if_pos hz]
          first | done | exact rfl
        · rw [if_neg hz]
          by_cases hz : ((-2 : Int32) - (M.2.1 190 (v1.toNatClampNeg))) = (3 : Int32)
          · rw [if_pos hz]
            first | done | exact rfl
          · rw [if_neg hz]
            by_cases hz : (lg_cmp v3 (0 : Int64)) = (0 : Int32)
            · rw [if_pos hz]
              first | done | exact rfl
            · rw [if_neg hz]
              first | done | exact rfl
  · rw [if_neg hz]
    first | done | exact rfl
theorem xwJ_302 {M : ro_Mm} {v1 : Int32} {v2 : Int32} {v3 : Int64} {c j : Nat} (n0 : c ≠ 192) : (xm_302 M v1 v2 v3).2.2.1 c j = M.2.2.1 c j := by
  unfold xm_302
  by_cases hz : (0 : Int32) ≤ (xf_303 M v1 v2)
  · rw [if_pos hz]
    by_cases hz : ((-2 : Int32) - (M.2.1 190 (v1.toNatClampNeg))) = (0 : Int32)
    · rw [if_pos hz]
      first | done | exact (ro_sJ_ne n0)
    · rw [if_neg hz]
      by_cases hz : ((-2 : Int32) - (M.2.1 190 (v1.toNatClampNeg))) = (1 : Int32)
      · rw [if_pos hz]
        first | done | exact (ro_sJ_ne n0)
      · rw [if_neg hz]
        by_cases hz : ((-2 : Int32) - (M.2.1 190 (v1.toNatClampNeg))) = (2 : Int32)
        · rw [if_pos hz]
          first | done | exact (ro_sJ_ne n0)
        · rw [if_neg hz]
          by_cases hz : ((-2 : Int32) - (M.2.1 190 (v1.toNatClampNeg))) = (3 : Int32)
          · rw [if_pos hz]
            first | done | exact (ro_sJ_ne n0)
          · rw [if_neg hz]
            by_cases hz : (lg_cmp v3 (0 : Int64)) = (0 : Int32)
            · rw [if_pos hz]
              first | done | exact (ro_sJ_ne n0)
            · rw [if_neg hz]
              first | done | exact (ro_sJ_ne n0)
  · rw [if_neg hz]
    first | done | exact rfl
/-- RefusedOnce.person(I)I -/
def xf_12 (M : ro_Mm) (v1 : Int32) : Int32 := (if (xf_13 M v1 (0 : Int32) (20 : Int32)) then (if (xf_14 M v1 (0 : Int32) (3 : Int32)) then ((xf_18 (xm_14 M v1 (0 : Int32) (3 : Int32))) - (1 : Int32)) else (-3 : Int32)) else (-1 : Int32))
def xm_12 (M : ro_Mm) (v1 : Int32) : ro_Mm := (if (xf_13 M v1 (0 : Int32) (20 : Int32)) then (xm_14 M v1 (0 : Int32) (3 : Int32)) else M)
theorem xs_12 {X : ro_Sx} {M : ro_Mm} {v1 : Int32} (hL : ro_lay M) : ro_cwp X 3 12 [.ref 4, .int v1] M (fun v M2 => v = some (.int (xf_12 M v1)) ∧ M2 = xm_12 M v1) := by
  refine rs_begin (lv0 := [(0, .ref 4), (1, .int v1)]) (by decide) rfl (by rw [rm_12.1]; exact Nat.le_of_ble_eq_true rfl) rfl ?_
  refine rs_iload_n ri_12_0 rfl rfl ?_
  refine rs_iconst (v := (0 : Int32)) ri_12_1 rfl (by decide) ?_
  refine rs_bipush (v := (20 : Int32)) ri_12_2 rfl (by decide) ?_
  refine rs_stat (As := [.int v1, .int (0 : Int32), .int (20 : Int32)]) (r := []) ri_12_4 rfl rm_13.2.2.2 rfl rfl rfl (Nat.le_of_ble_eq_true rfl) (by decide) (by decide) (xs_13 (X := X) hL) ?_
  rintro _ _ ⟨e1, e2⟩
  rw [e1, e2]
  show ro_w X _ 12 _ 7 [(0, .ref 4), (1, .int v1)] [.int (ro_b (xf_13 M v1 (0 : Int32) (20 : Int32)))] M (0, 0)
  refine rs_ifne_c (t := 12) ri_12_7 rfl rfl (fun h1 => ?_) (fun h1 => ?_)
  · skip
    refine rs_aload_n ri_12_12 rfl rfl ?_
    refine rs_gf (v := .ref 5) ri_12_13 rfl (by decide) (ro_kf (kd_4 hL)) rfl (rf_4_0 hL) ?_
    refine rs_iload_n ri_12_16 rfl rfl ?_
    refine rs_iconst (v := (0 : Int32)) ri_12_17 rfl (by decide) ?_
    refine rs_iconst (v := (3 : Int32)) ri_12_18 rfl (by decide) ?_
    refine rs_virt (As := [.int v1, .int (0 : Int32), .int (3 : Int32)]) (r := []) ri_12_19 rfl (by decide) rm_14.2.2.2 rm_14.2.2.1 rfl rfl rfl (by decide) (ro_kf (kd_5 hL)) (Nat.le_of_ble_eq_true rfl) (by decide) (by decide) (xs_14 (X := X) hL) ?_
    rintro _ _ ⟨e1, e2⟩
    rw [e1, e2]
    show ro_w X _ 12 _ 22 [(0, .ref 4), (1, .int v1)] [.int (ro_b (xf_14 M v1 (0 : Int32) (3 : Int32)))] (xm_14 M v1 (0 : Int32) (3 : Int32)) (0, 0)
    refine rs_ifeq_c (t := 37) ri_12_22 rfl rfl (fun h2 => ?_) (fun h2 => ?_)
    · skip
      refine rs_bipush (v := (-3 : Int32)) ri_12_37 rfl (by decide) ?_
      refine rs_iret ri_12_39 rm_12.2.1 (by decide) ?_
      exact ⟨by unfold xf_12; first | (simp only [if_pos h1, if_neg h2]; done) | rfl, by unfold xm_12; first | (simp only [if_pos h1, if_neg h2]; done) | rfl⟩
    · skip
      refine rs_aload_n ri_12_25 rfl rfl ?_
      refine rs_gf (v := .ref 5) ri_12_26 rfl (by decide) (ro_kf (kd_4 (xl_14 hL))) rfl (rf_4_0 (xl_14 hL)) ?_
      refine rs_virt (As := []) (r := []) ri_12_29 rfl (by decide) rm_18.2.2.2 rm_18.2.2.1 rfl rfl rfl (by decide) (ro_kf (kd_5 (xl_14 hL))) (Nat.le_of_ble_eq_true rfl) (by decide) (by decide) (xs_18 (X := X) (xl_14 hL)) ?_
      rintro _ _ ⟨e1, e2⟩
      rw [e1, e2]
      show ro_w X _ 12 _ 32 [(0, .ref 4), (1, .int v1)] [.int (xf_18 (xm_14 M v1 (0 : Int32) (3 : Int32)))] (xm_14 M v1 (0 : Int32) (3 : Int32)) (0, 0)
      refine rs_iconst (v := (1 : Int32)) ri_12_32 rfl (by decide) ?_
      refine rs_isub (r := ((xf_18 (xm_14 M v1 (0 : Int32) (3 : Int32))) - (1 : Int32))) ri_12_33 rfl rfl ?_
      refine rs_goto (t := 39) ri_12_34 rfl ?_
      refine rs_iret ri_12_39 rm_12.2.1 (by decide) ?_
      exact ⟨by unfold xf_12; first | (simp only [if_pos h1, if_pos h2]; done) | rfl, by unfold xm_12; first | (simp only [if_pos h1, if_pos h2]; done) | rfl⟩
  · skip
    refine rs_iconst (v := (-1 : Int32)) ri_12_10 rfl (by decide) ?_
    refine rs_iret ri_12_11 rm_12.2.1 (by decide) ?_
    exact ⟨by unfold xf_12; first | (simp only [if_neg h1]; done) | rfl, by unfold xm_12; first | (simp only [if_neg h1]; done) | rfl⟩
theorem xl_12 {M : ro_Mm} {v1 : Int32} (hL : ro_lay M) : ro_lay (xm_12 M v1) := by
  unfold xm_12
  by_cases hz : (xf_13 M v1 (0 : Int32) (20 : Int32))
  · skip
    rw [if_pos hz]
    by_cases hz : (xf_14 M v1 (0 : Int32) (3 : Int32))
    · skip
      exact (xl_14 hL)
    · skip
      exact (xl_14 hL)
  · skip
    rw [if_neg hz]
    exact hL
theorem xwI_12 {M : ro_Mm} {v1 : Int32} {c j : Nat} (n0 : c ≠ 7) (n1 : c ≠ 8) (n2 : c ≠ 9) (n3 : c ≠ 10) (n4 : c ≠ 5) : (xm_12 M v1).2.1 c j = M.2.1 c j := by
  unfold xm_12
  by_cases hz : (xf_13 M v1 (0 : Int32) (20 : Int32))
  · rw [if_pos hz]
    first | done | exact (xwI_14 n0 n1 n2 n3 n4)
  · rw [if_neg hz]
    first | done | exact rfl
theorem xwJ_12 {M : ro_Mm} {v1 : Int32} {c j : Nat} : (xm_12 M v1).2.2.1 c j = M.2.2.1 c j := by
  unfold xm_12
  by_cases hz : (xf_13 M v1 (0 : Int32) (20 : Int32))
  · rw [if_pos hz]
    first | done | exact (xwJ_14)
  · rw [if_neg hz]
    first | done | exact rfl
/-- RefusedOnce.of(II)I -/
def xf_36 (M : ro_Mm) (v1 : Int32) (v2 : Int32) : Int32 := (if (xf_28 M v1 v2) then (xf_30 M v1 v2) else (if (xf_29 M v1) then (if v2 = (7 : Int32) then (xf_37 M 6 v1) else (if v2 = (8 : Int32) then (xf_39 M v1) else (-1 : Int32))) else (-1 : Int32)))
theorem xs_36 {X : ro_Sx} {M : ro_Mm} {v1 : Int32} {v2 : Int32} (hL : ro_lay M) : ro_cwp X 4 36 [.ref 4, .int v1, .int v2] M (fun v M2 => v = some (.int (xf_36 M v1 v2)) ∧ M2 = M) := by
  refine rs_begin (lv0 := [(0, .ref 4), (1, .int v1), (2, .int v2)]) (by decide) rfl (by rw [rm_36.1]; exact Nat.le_of_ble_eq_true rfl) rfl ?_
  refine rs_aload_n ri_36_0 rfl rfl ?_
  refine rs_gf (v := .ref 5) ri_36_1 rfl (by decide) (ro_kf (kd_4 hL)) rfl (rf_4_0 hL) ?_
  refine rs_iload_n ri_36_4 rfl rfl ?_
  refine rs_iload_n ri_36_5 rfl rfl ?_
  refine rs_virt (As := [.int v1, .int v2]) (r := []) ri_36_6 rfl (by decide) rm_28.2.2.2 rm_28.2.2.1 rfl rfl rfl (by decide) (ro_kf (kd_5 hL)) (Nat.le_of_ble_eq_true rfl) (by decide) (by decide) (xs_28 (X := X) hL) ?_
  rintro _ _ ⟨e1, e2⟩
  rw [e1, e2]
  show ro_w X _ 36 _ 9 [(0, .ref 4), (1, .int v1), (2, .int v2)] [.int (ro_b (xf_28 M v1 v2))] M (0, 0)
  refine rs_ifeq_c (t := 22) ri_36_9 rfl rfl (fun h1 => ?_) (fun h1 => ?_)
  · skip
    refine rs_aload_n ri_36_22 rfl rfl ?_
    refine rs_gf (v := .ref 5) ri_36_23 rfl (by decide) (ro_kf (kd_4 hL)) rfl (rf_4_0 hL) ?_
    refine rs_iload_n ri_36_26 rfl rfl ?_
    refine rs_virt (As := [.int v1]) (r := []) ri_36_27 rfl (by decide) rm_29.2.2.2 rm_29.2.2.1 rfl rfl rfl (by decide) (ro_kf (kd_5 hL)) (Nat.le_of_ble_eq_true rfl) (by decide) (by decide) (xs_29 (X := X) hL) ?_
    rintro _ _ ⟨e1, e2⟩
    rw [e1, e2]
    show ro_w X _ 36 _ 30 [(0, .ref 4), (1, .int v1), (2, .int v2)] [.int (ro_b (xf_29 M v1))] M (0, 0)
    refine rs_ifne_c (t := 35) ri_36_30 rfl rfl (fun h2 => ?_) (fun h2 => ?_)
    · skip
      refine rs_iload_n ri_36_35 rfl rfl ?_
      refine rs_bipush (v := (7 : Int32)) ri_36_36 rfl (by decide) ?_
      refine rs_icmp_ne (t := 57) ri_36_38 rfl rfl (fun h3 => ?_) (fun h3 => ?_)
      · skip
        refine rs_iload_n ri_36_57 rfl rfl ?_
        refine rs_bipush (v := (8 : Int32)) ri_36_58 rfl (by decide) ?_
        refine rs_icmp_ne (t := 74) ri_36_60 rfl rfl (fun h4 => ?_) (fun h4 => ?_)
        · skip
          refine rs_iconst (v := (-1 : Int32)) ri_36_74 rfl (by decide) ?_
          refine rs_iret ri_36_75 rm_36.2.1 (by decide) ?_
          exact ⟨by unfold xf_36; first | (simp only [if_neg h1, if_pos h2, if_neg h3, if_neg h4]; done) | rfl, by rfl⟩
        · skip
          refine rs_aload_n ri_36_63 rfl rfl ?_
          refine rs_gf (v := .ref 5) ri_36_64 rfl (by decide) (ro_kf (kd_4 hL)) rfl (rf_4_0 hL) ?_
          refine rs_iload_n ri_36_67 rfl rfl ?_
          refine rs_virt (As := [.int v1]) (r := []) ri_36_68 rfl (by decide) rm_39.2.2.2 rm_39.2.2.1 rfl rfl rfl (by decide) (ro_kf (kd_5 hL)) (Nat.le_of_ble_eq_true rfl) (by decide) (by decide) (xs_39 (X := X) hL) ?_
          rintro _ _ ⟨e1, e2⟩
          rw [e1, e2]
          show ro_w X _ 36 _ 71 [(0, .ref 4), (1, .int v1), (2, .int v2)] [.int (xf_39 M v1)] M (0, 0)
          refine rs_goto (t := 75) ri_36_71 rfl ?_
          refine rs_iret ri_36_75 rm_36.2.1 (by decide) ?_
          exact ⟨by unfold xf_36; first | (simp only [if_neg h1, if_pos h2, if_neg h3, if_pos h4]; done) | rfl, by rfl⟩
      · skip
        refine rs_aload_n ri_36_41 rfl rfl ?_
        refine rs_gf (v := .ref 5) ri_36_42 rfl (by decide) (ro_kf (kd_4 hL)) rfl (rf_4_0 hL) ?_
        refine rs_aload_n ri_36_45 rfl rfl ?_
        refine rs_gf (v := .ref 5) ri_36_46 rfl (by decide) (ro_kf (kd_4 hL)) rfl (rf_4_0 hL) ?_
        refine rs_gf (v := .ref 6) ri_36_49 rfl (by decide) (ro_kf (kd_5 hL)) rfl (rf_5_0 hL) ?_
        refine rs_iload_n ri_36_52 rfl rfl ?_
        refine rs_virt (As := [.ref 6, .int v1]) (r := []) ri_36_53 rfl (by decide) rm_37.2.2.2 rm_37.2.2.1 rfl rfl rfl (by decide) (ro_kf (kd_5 hL)) (Nat.le_of_ble_eq_true rfl) (by decide) (by decide) (xs_37 (X := X) hL (by unfold ro_ip; decide)) ?_
        rintro _ _ ⟨e1, e2⟩
        rw [e1, e2]
        show ro_w X _ 36 _ 56 [(0, .ref 4), (1, .int v1), (2, .int v2)] [.int (xf_37 M 6 v1)] M (0, 0)
        refine rs_iret ri_36_56 rm_36.2.1 (by decide) ?_
        exact ⟨by unfold xf_36; first | (simp only [if_neg h1, if_pos h2, if_pos h3]; done) | rfl, by rfl⟩
    · skip
      refine rs_iconst (v := (-1 : Int32)) ri_36_33 rfl (by decide) ?_
      refine rs_iret ri_36_34 rm_36.2.1 (by decide) ?_
      exact ⟨by unfold xf_36; first | (simp only [if_neg h1, if_neg h2]; done) | rfl, by rfl⟩
  · skip
    refine rs_aload_n ri_36_12 rfl rfl ?_
    refine rs_gf (v := .ref 5) ri_36_13 rfl (by decide) (ro_kf (kd_4 hL)) rfl (rf_4_0 hL) ?_
    refine rs_iload_n ri_36_16 rfl rfl ?_
    refine rs_iload_n ri_36_17 rfl rfl ?_
    refine rs_virt (As := [.int v1, .int v2]) (r := []) ri_36_18 rfl (by decide) rm_30.2.2.2 rm_30.2.2.1 rfl rfl rfl (by decide) (ro_kf (kd_5 hL)) (Nat.le_of_ble_eq_true rfl) (by decide) (by decide) (xs_30 (X := X) hL) ?_
    rintro _ _ ⟨e1, e2⟩
    rw [e1, e2]
    show ro_w X _ 36 _ 21 [(0, .ref 4), (1, .int v1), (2, .int v2)] [.int (xf_30 M v1 v2)] M (0, 0)
    refine rs_iret ri_36_21 rm_36.2.1 (by decide) ?_
    exact ⟨by unfold xf_36; first | (simp only [if_pos h1]; done) | rfl, by rfl⟩
/-- RefusedOnce.put(IIJ)I -/
def xf_179 (M : ro_Mm) (v1 : Int32) (v2 : Int32) (v3 : Int64) : Int32 := (if ro_bs v1 then (if (xf_180 M (ro_sc v1)) then (if (xf_181 M (ro_sc v1) v2 v3) then (1 : Int32) else (-13 : Int32)) else (xf_65 M (ro_sc v1))) else (-1 : Int32))
def xm_179 (M : ro_Mm) (v1 : Int32) (v2 : Int32) (v3 : Int64) : ro_Mm := (if ro_bs v1 then (if (xf_180 M (ro_sc v1)) then (xm_181 M (ro_sc v1) v2 v3) else M) else M)
theorem xs_179 {X : ro_Sx} {M : ro_Mm} {v1 : Int32} {v2 : Int32} {v3 : Int64} (hL : ro_lay M) : ro_cwp X 3 179 [.ref 4, .int v1, .int v2, .long v3] M (fun v M2 => v = some (.int (xf_179 M v1 v2 v3)) ∧ M2 = xm_179 M v1 v2 v3) := by
  refine rs_begin (lv0 := [(0, .ref 4), (1, .int v1), (2, .int v2), (3, .long v3)]) (by decide) rfl (by rw [rm_179.1]; exact Nat.le_of_ble_eq_true rfl) rfl ?_
  refine rs_aload_n ri_179_0 rfl rfl ?_
  refine rs_iload_n ri_179_1 rfl rfl ?_
  by_cases h1 : ro_bs v1 = true
  · skip
    refine rs_virt (As := [.int v1]) (r := []) ri_179_2 rfl (by decide) rm_20.2.2.2 rm_20.2.2.1 rfl rfl rfl (by decide) (ro_kf (kd_4 hL)) (Nat.le_of_ble_eq_true rfl) (by decide) (by decide) (xs_20_t hL h1) ?_
    rintro _ _ ⟨e1, e2⟩
    rw [e1, e2]
    show ro_w X _ 179 _ 5 [(0, .ref 4), (1, .int v1), (2, .int v2), (3, .long v3)] [.ref (ro_sc v1)] M (0, 0)
    refine rs_astore (lv2 := [(5, .ref (ro_sc v1)), (0, .ref 4), (1, .int v1), (2, .int v2), (3, .long v3)]) ri_179_5 rfl rm_179.1 (by decide) rfl ?_
    refine rs_aload ri_179_7 rfl rfl ?_
    refine rs_ifnonnull (t := 14) ri_179_9 rfl ?_
    refine rs_aload ri_179_14 rfl rfl ?_
    refine rs_virt (As := []) (r := []) ri_179_16 rfl (by decide) rm_180.2.2.2 rm_180.2.2.1 rfl rfl rfl (ro_is4 (ro_sc_is v1)) (ro_kf (is_kd hL (ro_sc_is v1))) (Nat.le_of_ble_eq_true rfl) (by decide) (by decide) (xs_180 (X := X) hL (ro_sc_is v1)) ?_
    rintro _ _ ⟨e1, e2⟩
    rw [e1, e2]
    show ro_w X _ 179 _ 19 [(5, .ref (ro_sc v1)), (0, .ref 4), (1, .int v1), (2, .int v2), (3, .long v3)] [.int (ro_b (xf_180 M (ro_sc v1)))] M (0, 0)
    refine rs_ifne_c (t := 28) ri_179_19 rfl rfl (fun h2 => ?_) (fun h2 => ?_)
    · skip
      refine rs_aload ri_179_28 rfl rfl ?_
      refine rs_iload_n ri_179_30 rfl rfl ?_
      refine rs_lload_n ri_179_31 rfl rfl ?_
      refine rs_virt (As := [.int v2, .long v3]) (r := []) ri_179_32 rfl (by decide) rm_181.2.2.2 rm_181.2.2.1 rfl rfl rfl (ro_is4 (ro_sc_is v1)) (ro_kf (is_kd hL (ro_sc_is v1))) (Nat.le_of_ble_eq_true rfl) (by decide) (by decide) (xs_181 (X := X) hL (ro_sc_is v1)) ?_
      rintro _ _ ⟨e1, e2⟩
      rw [e1, e2]
      show ro_w X _ 179 _ 35 [(5, .ref (ro_sc v1)), (0, .ref 4), (1, .int v1), (2, .int v2), (3, .long v3)] [.int (ro_b (xf_181 M (ro_sc v1) v2 v3))] (xm_181 M (ro_sc v1) v2 v3) (0, 0)
      refine rs_ifeq_c (t := 42) ri_179_35 rfl rfl (fun h3 => ?_) (fun h3 => ?_)
      · skip
        refine rs_bipush (v := (-13 : Int32)) ri_179_42 rfl (by decide) ?_
        refine rs_iret ri_179_44 rm_179.2.1 (by decide) ?_
        exact ⟨by unfold xf_179; first | (simp only [if_pos h1, if_pos h2, if_neg h3]; done) | rfl, by unfold xm_179; first | (simp only [if_pos h1, if_pos h2, if_neg h3]; done) | rfl⟩
      · skip
        refine rs_iconst (v := (1 : Int32)) ri_179_38 rfl (by decide) ?_
        refine rs_goto (t := 44) ri_179_39 rfl ?_
        refine rs_iret ri_179_44 rm_179.2.1 (by decide) ?_
        exact ⟨by unfold xf_179; first | (simp only [if_pos h1, if_pos h2, if_pos h3]; done) | rfl, by unfold xm_179; first | (simp only [if_pos h1, if_pos h2, if_pos h3]; done) | rfl⟩
    · skip
      refine rs_aload ri_179_22 rfl rfl ?_
      refine rs_virt (As := []) (r := []) ri_179_24 rfl (by decide) rm_65.2.2.2 rm_65.2.2.1 rfl rfl rfl (ro_is4 (ro_sc_is v1)) (ro_kf (is_kd hL (ro_sc_is v1))) (Nat.le_of_ble_eq_true rfl) (by decide) (by decide) (xs_65 (X := X) hL (ro_sc_is v1)) ?_
      rintro _ _ ⟨e1, e2⟩
      rw [e1, e2]
      show ro_w X _ 179 _ 27 [(5, .ref (ro_sc v1)), (0, .ref 4), (1, .int v1), (2, .int v2), (3, .long v3)] [.int (xf_65 M (ro_sc v1))] M (0, 0)
      refine rs_iret ri_179_27 rm_179.2.1 (by decide) ?_
      exact ⟨by unfold xf_179; first | (simp only [if_pos h1, if_neg h2]; done) | rfl, by unfold xm_179; first | (simp only [if_pos h1, if_neg h2]; done) | rfl⟩
  · skip
    refine rs_virt (As := [.int v1]) (r := []) ri_179_2 rfl (by decide) rm_20.2.2.2 rm_20.2.2.1 rfl rfl rfl (by decide) (ro_kf (kd_4 hL)) (Nat.le_of_ble_eq_true rfl) (by decide) (by decide) (xs_20_f hL h1) ?_
    rintro _ _ ⟨e1, e2⟩
    rw [e1, e2]
    show ro_w X _ 179 _ 5 [(0, .ref 4), (1, .int v1), (2, .int v2), (3, .long v3)] [.null] M (0, 0)
    refine rs_astoreN (lv2 := [(5, .null), (0, .ref 4), (1, .int v1), (2, .int v2), (3, .long v3)]) ri_179_5 rfl rm_179.1 (by decide) rfl ?_
    refine rs_aloadN ri_179_7 rfl rfl ?_
    refine rs_ifnonnullN (t := 14) ri_179_9 rfl rfl ?_
    refine rs_iconst (v := (-1 : Int32)) ri_179_12 rfl (by decide) ?_
    refine rs_iret ri_179_13 rm_179.2.1 (by decide) ?_
    exact ⟨by unfold xf_179; first | (simp only [if_neg h1]; done) | rfl, by unfold xm_179; first | (simp only [if_neg h1]; done) | rfl⟩
theorem xl_179 {M : ro_Mm} {v1 : Int32} {v2 : Int32} {v3 : Int64} (hL : ro_lay M) : ro_lay (xm_179 M v1 v2 v3) := by
  unfold xm_179
  by_cases hz : ro_bs v1
  · skip
    rw [if_pos hz]
    by_cases hz : (xf_180 M (ro_sc v1))
    · skip
      rw [if_pos hz]
      by_cases hz : (xf_181 M (ro_sc v1) v2 v3)
      · skip
        exact (xl_181 hL (ro_sc_is v1))
      · skip
        exact (xl_181 hL (ro_sc_is v1))
    · skip
      rw [if_neg hz]
      exact hL
  · skip
    rw [if_neg hz]
    exact hL
theorem xwI_179 {M : ro_Mm} {v1 : Int32} {v2 : Int32} {v3 : Int64} {c j : Nat} : (xm_179 M v1 v2 v3).2.1 c j = M.2.1 c j := by
  unfold xm_179
  by_cases hz : ro_bs v1
  · rw [if_pos hz]
    by_cases hz : (xf_180 M (ro_sc v1))
    · rw [if_pos hz]
      first | done | exact (xwI_181)
    · rw [if_neg hz]
      first | done | exact rfl
  · rw [if_neg hz]
    first | done | exact rfl
theorem xwJ_179 {M : ro_Mm} {v1 : Int32} {v2 : Int32} {v3 : Int64} {c j : Nat} (n0 : c ≠ ((ro_sc v1) + 1)) : (xm_179 M v1 v2 v3).2.2.1 c j = M.2.2.1 c j := by
  unfold xm_179
  by_cases hz : ro_bs v1
  · rw [if_pos hz]
    by_cases hz : (xf_180 M (ro_sc v1))
    · rw [if_pos hz]
      first | done | exact (xwJ_181 n0)
    · rw [if_neg hz]
      first | done | exact rfl
  · rw [if_neg hz]
    first | done | exact rfl
/-- RefusedOnceModel.beggarNotches(II)I -/
def xf_291 (M : ro_Mm) (v1 : Int32) (v2 : Int32) : Int32 := (-(xf_292 (xm_287 M (30 : Int32)) v1 v2))
def xm_291 (M : ro_Mm) (v1 : Int32) (v2 : Int32) : ro_Mm := (xm_292 (xm_287 M (30 : Int32)) v1 v2)
def xp_291 (M : ro_Mm) (v1 : Int32) (v2 : Int32) : Prop := (xp_287 M (30 : Int32) ∧ (xp_292 (xm_287 M (30 : Int32)) v1 v2 ∧ True))
theorem xs_291 {X : ro_Sx} {M : ro_Mm} {v1 : Int32} {v2 : Int32} (hL : ro_lay M) (hp : xp_291 M v1 v2) : ro_cwp X 6 291 [.ref 163, .int v1, .int v2] M (fun v M2 => v = some (.int (xf_291 M v1 v2)) ∧ M2 = xm_291 M v1 v2) := by
  refine rs_begin (lv0 := [(0, .ref 163), (1, .int v1), (2, .int v2)]) (by decide) rfl (by rw [rm_291.1]; exact Nat.le_of_ble_eq_true rfl) rfl ?_
  unfold xp_291 at hp
  refine rs_aload_n ri_291_0 rfl rfl ?_
  refine rs_bipush (v := (30 : Int32)) ri_291_1 rfl (by decide) ?_
  obtain ⟨q0, hp⟩ := hp
  refine rs_virt (As := [.int (30 : Int32)]) (r := []) ri_291_3 rfl (by decide) rm_287.2.2.2 rm_287.2.2.1 rfl rfl rfl (by decide) (ro_kf (kd_163 hL)) (Nat.le_of_ble_eq_true rfl) (by decide) (by decide) (xs_287 (X := X) hL q0) ?_
  rintro _ _ ⟨e1, e2⟩
  rw [e1, e2]
  show ro_w X _ 291 _ 6 [(0, .ref 163), (1, .int v1), (2, .int v2)] [] (xm_287 M (30 : Int32)) (0, 0)
  refine rs_aload_n ri_291_6 rfl rfl ?_
  refine rs_iload_n ri_291_7 rfl rfl ?_
  refine rs_iload_n ri_291_8 rfl rfl ?_
  obtain ⟨q1, hp⟩ := hp
  refine rs_virt (As := [.int v1, .int v2]) (r := []) ri_291_9 rfl (by decide) rm_292.2.2.2 rm_292.2.2.1 rfl rfl rfl (by decide) (ro_kf (kd_163 (xl_287 hL q0))) (Nat.le_of_ble_eq_true rfl) (by decide) (by decide) (xs_292 (X := X) (xl_287 hL q0) q1) ?_
  rintro _ _ ⟨e1, e2⟩
  rw [e1, e2]
  show ro_w X _ 291 _ 12 [(0, .ref 163), (1, .int v1), (2, .int v2)] [.int (xf_292 (xm_287 M (30 : Int32)) v1 v2)] (xm_292 (xm_287 M (30 : Int32)) v1 v2) (0, 0)
  refine rs_ineg (r := (-(xf_292 (xm_287 M (30 : Int32)) v1 v2))) ri_291_12 rfl rfl ?_
  refine rs_iret ri_291_13 rm_291.2.1 (by decide) ?_
  exact ⟨by rfl, by rfl⟩
theorem xl_291 {M : ro_Mm} {v1 : Int32} {v2 : Int32} (hL : ro_lay M) (hp : xp_291 M v1 v2) : ro_lay (xm_291 M v1 v2) := by
  unfold xp_291 at hp
  unfold xm_291
  obtain ⟨q0, hp⟩ := hp
  obtain ⟨q1, hp⟩ := hp
  exact (xl_292 (xl_287 hL q0) q1)
theorem xwI_291 {M : ro_Mm} {v1 : Int32} {v2 : Int32} {c j : Nat} (n0 : c ≠ 163) (n1 : c ≠ 189) : (xm_291 M v1 v2).2.1 c j = M.2.1 c j := by
  unfold xm_291
  first | done | exact (((xwI_292 n0 n1)).trans (xwI_287 n0 n1))
theorem xwJ_291 {M : ro_Mm} {v1 : Int32} {v2 : Int32} {c j : Nat} : (xm_291 M v1 v2).2.2.1 c j = M.2.2.1 c j := by
  unfold xm_291
  first | done | exact (((xwJ_292)).trans (xwJ_287))
/-- RefusedOnceModel.taking(II)I -/
def xf_293 (M : ro_Mm) (v1 : Int32) (v2 : Int32) : Int32 := (if (M.2.1 188 (v1.toNatClampNeg)) = (5 : Int32) then ((xf_294 (xm_287 M (60 : Int32)) v1 v2) - (xf_285 (xm_294 (xm_287 M (60 : Int32)) v1 v2) v1 (2 : Int32))) else (if (M.2.1 188 (v1.toNatClampNeg)) = (3 : Int32) then (xf_294 M v1 v2) else (xf_295 M v1 v2)))
def xm_293 (M : ro_Mm) (v1 : Int32) (v2 : Int32) : ro_Mm := (if (M.2.1 188 (v1.toNatClampNeg)) = (5 : Int32) then (xm_285 (xm_294 (xm_287 M (60 : Int32)) v1 v2) v1 (2 : Int32)) else (if (M.2.1 188 (v1.toNatClampNeg)) = (3 : Int32) then (xm_294 M v1 v2) else (xm_295 M v1 v2)))
def xp_293 (M : ro_Mm) (v1 : Int32) (v2 : Int32) : Prop := (vp_in v1 50 ∧ (((M.2.1 188 (v1.toNatClampNeg)) = (5 : Int32) → (xp_287 M (60 : Int32) ∧ (xp_294 (xm_287 M (60 : Int32)) v1 v2 ∧ (xp_285 (xm_294 (xm_287 M (60 : Int32)) v1 v2) v1 (2 : Int32) ∧ True)))) ∧ (¬ ((M.2.1 188 (v1.toNatClampNeg)) = (5 : Int32)) → (vp_in v1 50 ∧ (((M.2.1 188 (v1.toNatClampNeg)) = (3 : Int32) → (xp_294 M v1 v2 ∧ True)) ∧ (¬ ((M.2.1 188 (v1.toNatClampNeg)) = (3 : Int32)) → (xp_295 M v1 v2 ∧ True)))))))
theorem xs_293 {X : ro_Sx} {M : ro_Mm} {v1 : Int32} {v2 : Int32} (hL : ro_lay M) (hp : xp_293 M v1 v2) : ro_cwp X 5 293 [.ref 163, .int v1, .int v2] M (fun v M2 => v = some (.int (xf_293 M v1 v2)) ∧ M2 = xm_293 M v1 v2) := by
  refine rs_begin (lv0 := [(0, .ref 163), (1, .int v1), (2, .int v2)]) (by decide) rfl (by rw [rm_293.1]; exact Nat.le_of_ble_eq_true rfl) rfl ?_
  unfold xp_293 at hp
  refine rs_aload_n ri_293_0 rfl rfl ?_
  refine rs_gf (v := .ref 188) ri_293_1 rfl (by decide) (ro_kf (kd_163 hL)) rfl (rf_163_50 hL) ?_
  refine rs_iload_n ri_293_4 rfl rfl ?_
  obtain ⟨q0, hp⟩ := hp
  refine rs_iald (v := (M.2.1 188 (v1.toNatClampNeg))) ri_293_5 rfl (by decide) (kd_188 hL) q0 rfl ?_
  refine rs_iconst (v := (5 : Int32)) ri_293_6 rfl (by decide) ?_
  refine rs_icmp_ne (t := 32) ri_293_7 rfl rfl (fun h2 => ?_) (fun h2 => ?_)
  · have hp := hp.2 h2
    refine rs_aload_n ri_293_32 rfl rfl ?_
    refine rs_gf (v := .ref 188) ri_293_33 rfl (by decide) (ro_kf (kd_163 hL)) rfl (rf_163_50 hL) ?_
    refine rs_iload_n ri_293_36 rfl rfl ?_
    obtain ⟨q2, hp⟩ := hp
    refine rs_iald (v := (M.2.1 188 (v1.toNatClampNeg))) ri_293_37 rfl (by decide) (kd_188 hL) q2 rfl ?_
    refine rs_iconst (v := (3 : Int32)) ri_293_38 rfl (by decide) ?_
    refine rs_icmp_ne (t := 51) ri_293_39 rfl rfl (fun h4 => ?_) (fun h4 => ?_)
    · have hp := hp.2 h4
      refine rs_aload_n ri_293_51 rfl rfl ?_
      refine rs_iload_n ri_293_52 rfl rfl ?_
      refine rs_iload_n ri_293_53 rfl rfl ?_
      obtain ⟨q4, hp⟩ := hp
      refine rs_virt (As := [.int v1, .int v2]) (r := []) ri_293_54 rfl (by decide) rm_295.2.2.2 rm_295.2.2.1 rfl rfl rfl (by decide) (ro_kf (kd_163 hL)) (Nat.le_of_ble_eq_true rfl) (by decide) (by decide) (xs_295 (X := X) hL q4) ?_
      rintro _ _ ⟨e1, e2⟩
      rw [e1, e2]
      show ro_w X _ 293 _ 57 [(0, .ref 163), (1, .int v1), (2, .int v2)] [.int (xf_295 M v1 v2)] (xm_295 M v1 v2) (0, 0)
      refine rs_iret ri_293_57 rm_293.2.1 (by decide) ?_
      exact ⟨by unfold xf_293; first | (simp only [if_neg h2, if_neg h4]; done) | rfl, by unfold xm_293; first | (simp only [if_neg h2, if_neg h4]; done) | rfl⟩
    · have hp := hp.1 h4
      refine rs_aload_n ri_293_42 rfl rfl ?_
      refine rs_iload_n ri_293_43 rfl rfl ?_
      refine rs_iload_n ri_293_44 rfl rfl ?_
      obtain ⟨q5, hp⟩ := hp
      refine rs_virt (As := [.int v1, .int v2]) (r := []) ri_293_45 rfl (by decide) rm_294.2.2.2 rm_294.2.2.1 rfl rfl rfl (by decide) (ro_kf (kd_163 hL)) (Nat.le_of_ble_eq_true rfl) (by decide) (by decide) (xs_294 (X := X) hL q5) ?_
      rintro _ _ ⟨e1, e2⟩
      rw [e1, e2]
      show ro_w X _ 293 _ 48 [(0, .ref 163), (1, .int v1), (2, .int v2)] [.int (xf_294 M v1 v2)] (xm_294 M v1 v2) (0, 0)
      refine rs_goto (t := 57) ri_293_48 rfl ?_
      refine rs_iret ri_293_57 rm_293.2.1 (by decide) ?_
      exact ⟨by unfold xf_293; first | (simp only [if_neg h2, if_pos h4]; done) | rfl, by unfold xm_293; first | (simp only [if_neg h2, if_pos h4]; done) | rfl⟩
  · have hp := hp.1 h2
    refine rs_aload_n ri_293_10 rfl rfl ?_
    refine rs_bipush (v := (60 : Int32)) ri_293_11 rfl (by decide) ?_
    obtain ⟨q6, hp⟩ := hp
    refine rs_virt (As := [.int (60 : Int32)]) (r := []) ri_293_13 rfl (by decide) rm_287.2.2.2 rm_287.2.2.1 rfl rfl rfl (by decide) (ro_kf (kd_163 hL)) (Nat.le_of_ble_eq_true rfl) (by decide) (by decide) (xs_287 (X := X) hL q6) ?_
    rintro _ _ ⟨e1, e2⟩
    rw [e1, e2]
    show ro_w X _ 293 _ 16 [(0, .ref 163), (1, .int v1), (2, .int v2)] [] (xm_287 M (60 : Int32)) (0, 0)
    refine rs_aload_n ri_293_16 rfl rfl ?_
    refine rs_iload_n ri_293_17 rfl rfl ?_
    refine rs_iload_n ri_293_18 rfl rfl ?_
    obtain ⟨q7, hp⟩ := hp
    refine rs_virt (As := [.int v1, .int v2]) (r := []) ri_293_19 rfl (by decide) rm_294.2.2.2 rm_294.2.2.1 rfl rfl rfl (by decide) (ro_kf (kd_163 (xl_287 hL q6))) (Nat.le_of_ble_eq_true rfl) (by decide) (by decide) (xs_294 (X := X) (xl_287 hL q6) q7) ?_
    rintro _ _ ⟨e1, e2⟩
    rw [e1, e2]
    show ro_w X _ 293 _ 22 [(0, .ref 163), (1, .int v1), (2, .int v2)] [.int (xf_294 (xm_287 M (60 : Int32)) v1 v2)] (xm_294 (xm_287 M (60 : Int32)) v1 v2) (0, 0)
    refine rs_istore_n (lv2 := [(3, .int (xf_294 (xm_287 M (60 : Int32)) v1 v2)), (0, .ref 163), (1, .int v1), (2, .int v2)]) ri_293_22 rfl rm_293.1 (by decide) rfl ?_
    refine rs_iload_n ri_293_23 rfl rfl ?_
    refine rs_aload_n ri_293_24 rfl rfl ?_
    refine rs_iload_n ri_293_25 rfl rfl ?_
    refine rs_iconst (v := (2 : Int32)) ri_293_26 rfl (by decide) ?_
    obtain ⟨q8, hp⟩ := hp
    refine rs_virt (As := [.int v1, .int (2 : Int32)]) (r := [.int (xf_294 (xm_287 M (60 : Int32)) v1 v2)]) ri_293_27 rfl (by decide) rm_285.2.2.2 rm_285.2.2.1 rfl rfl rfl (by decide) (ro_kf (kd_163 (xl_294 (xl_287 hL q6) q7))) (Nat.le_of_ble_eq_true rfl) (by decide) (by decide) (xs_285 (X := X) (xl_294 (xl_287 hL q6) q7) q8) ?_
    rintro _ _ ⟨e1, e2⟩
    rw [e1, e2]
    show ro_w X _ 293 _ 30 [(3, .int (xf_294 (xm_287 M (60 : Int32)) v1 v2)), (0, .ref 163), (1, .int v1), (2, .int v2)] [.int (xf_285 (xm_294 (xm_287 M (60 : Int32)) v1 v2) v1 (2 : Int32)), .int (xf_294 (xm_287 M (60 : Int32)) v1 v2)] (xm_285 (xm_294 (xm_287 M (60 : Int32)) v1 v2) v1 (2 : Int32)) (0, 0)
    refine rs_isub (r := ((xf_294 (xm_287 M (60 : Int32)) v1 v2) - (xf_285 (xm_294 (xm_287 M (60 : Int32)) v1 v2) v1 (2 : Int32)))) ri_293_30 rfl rfl ?_
    refine rs_iret ri_293_31 rm_293.2.1 (by decide) ?_
    exact ⟨by unfold xf_293; first | (simp only [if_pos h2]; done) | rfl, by unfold xm_293; first | (simp only [if_pos h2]; done) | rfl⟩
theorem xl_293 {M : ro_Mm} {v1 : Int32} {v2 : Int32} (hL : ro_lay M) (hp : xp_293 M v1 v2) : ro_lay (xm_293 M v1 v2) := by
  unfold xp_293 at hp
  unfold xm_293
  obtain ⟨q0, hp⟩ := hp
  by_cases hz : (M.2.1 188 (v1.toNatClampNeg)) = (5 : Int32)
  · have hp := hp.1 hz
    rw [if_pos hz]
    obtain ⟨q6, hp⟩ := hp
    obtain ⟨q7, hp⟩ := hp
    obtain ⟨q8, hp⟩ := hp
    exact (xl_285 (xl_294 (xl_287 hL q6) q7) q8)
  · have hp := hp.2 hz
    rw [if_neg hz]
    obtain ⟨q2, hp⟩ := hp
    by_cases hz : (M.2.1 188 (v1.toNatClampNeg)) = (3 : Int32)
    · have hp := hp.1 hz
      rw [if_pos hz]
      obtain ⟨q5, hp⟩ := hp
      exact (xl_294 hL q5)
    · have hp := hp.2 hz
      rw [if_neg hz]
      obtain ⟨q4, hp⟩ := hp
      exact (xl_295 hL q4)
theorem xwI_293 {M : ro_Mm} {v1 : Int32} {v2 : Int32} {c j : Nat} (n0 : c ≠ 163) (n1 : c ≠ 189) : (xm_293 M v1 v2).2.1 c j = M.2.1 c j := by
  unfold xm_293
  by_cases hz : (M.2.1 188 (v1.toNatClampNeg)) = (5 : Int32)
  · rw [if_pos hz]
    first | done | exact ((((xwI_285 n0 n1)).trans (xwI_294 n0 n1)).trans (xwI_287 n0 n1))
  · rw [if_neg hz]
    by_cases hz : (M.2.1 188 (v1.toNatClampNeg)) = (3 : Int32)
    · rw [if_pos hz]
      first | done | exact (xwI_294 n0 n1)
    · rw [if_neg hz]
      first | done | exact (xwI_295 n0 n1)
theorem xwJ_293 {M : ro_Mm} {v1 : Int32} {v2 : Int32} {c j : Nat} : (xm_293 M v1 v2).2.2.1 c j = M.2.2.1 c j := by
  unfold xm_293
  by_cases hz : (M.2.1 188 (v1.toNatClampNeg)) = (5 : Int32)
  · rw [if_pos hz]
    first | done | exact ((((xwJ_285)).trans (xwJ_294)).trans (xwJ_287))
  · rw [if_neg hz]
    by_cases hz : (M.2.1 188 (v1.toNatClampNeg)) = (3 : Int32)
    · rw [if_pos hz]
      first | done | exact (xwJ_294)
    · rw [if_neg hz]
      first | done | exact (xwJ_295)
/-- RefusedOnceModel.notching(II)I -/
def xf_290 (M : ro_Mm) (v1 : Int32) (v2 : Int32) : Int32 := (if (xf_286 M (M.2.1 188 (v1.toNatClampNeg)) (3 : Int32)) then (xf_291 (xm_287 M (41 : Int32)) v1 (v2 + (1 : Int32))) else (if (M.2.1 188 (v1.toNatClampNeg)) = (7 : Int32) then ((xf_292 (xm_287 M (80 : Int32)) v1 v2) + (xf_293 (xm_292 (xm_287 M (80 : Int32)) v1 v2) v1 (2 : Int32))) else (if (M.2.1 188 (v1.toNatClampNeg)) = (2 : Int32) then (xf_291 M v1 v2) else (xf_292 M v1 v2))))
def xm_290 (M : ro_Mm) (v1 : Int32) (v2 : Int32) : ro_Mm := (if (xf_286 M (M.2.1 188 (v1.toNatClampNeg)) (3 : Int32)) then (xm_291 (xm_287 M (41 : Int32)) v1 (v2 + (1 : Int32))) else (if (M.2.1 188 (v1.toNatClampNeg)) = (7 : Int32) then (xm_293 (xm_292 (xm_287 M (80 : Int32)) v1 v2) v1 (2 : Int32)) else (if (M.2.1 188 (v1.toNatClampNeg)) = (2 : Int32) then (xm_291 M v1 v2) else (xm_292 M v1 v2))))
def xp_290 (M : ro_Mm) (v1 : Int32) (v2 : Int32) : Prop := (vp_in v1 50 ∧ (((xf_286 M (M.2.1 188 (v1.toNatClampNeg)) (3 : Int32)) → (xp_287 M (41 : Int32) ∧ (xp_291 (xm_287 M (41 : Int32)) v1 (v2 + (1 : Int32)) ∧ True))) ∧ (¬ ((xf_286 M (M.2.1 188 (v1.toNatClampNeg)) (3 : Int32))) → (vp_in v1 50 ∧ (((M.2.1 188 (v1.toNatClampNeg)) = (7 : Int32) → (xp_287 M (80 : Int32) ∧ (xp_292 (xm_287 M (80 : Int32)) v1 v2 ∧ (xp_293 (xm_292 (xm_287 M (80 : Int32)) v1 v2) v1 (2 : Int32) ∧ True)))) ∧ (¬ ((M.2.1 188 (v1.toNatClampNeg)) = (7 : Int32)) → (vp_in v1 50 ∧ (((M.2.1 188 (v1.toNatClampNeg)) = (2 : Int32) → (xp_291 M v1 v2 ∧ True)) ∧ (¬ ((M.2.1 188 (v1.toNatClampNeg)) = (2 : Int32)) → (xp_292 M v1 v2 ∧ True))))))))))
theorem xs_290 {X : ro_Sx} {M : ro_Mm} {v1 : Int32} {v2 : Int32} (hL : ro_lay M) (hp : xp_290 M v1 v2) : ro_cwp X 7 290 [.ref 163, .int v1, .int v2] M (fun v M2 => v = some (.int (xf_290 M v1 v2)) ∧ M2 = xm_290 M v1 v2) := by
  refine rs_begin (lv0 := [(0, .ref 163), (1, .int v1), (2, .int v2)]) (by decide) rfl (by rw [rm_290.1]; exact Nat.le_of_ble_eq_true rfl) rfl ?_
  unfold xp_290 at hp
  refine rs_aload_n ri_290_0 rfl rfl ?_
  refine rs_gf (v := .ref 188) ri_290_1 rfl (by decide) (ro_kf (kd_163 hL)) rfl (rf_163_50 hL) ?_
  refine rs_iload_n ri_290_4 rfl rfl ?_
  obtain ⟨q0, hp⟩ := hp
  refine rs_iald (v := (M.2.1 188 (v1.toNatClampNeg))) ri_290_5 rfl (by decide) (kd_188 hL) q0 rfl ?_
  refine rs_iconst (v := (3 : Int32)) ri_290_6 rfl (by decide) ?_
  refine rs_stat (As := [.int (M.2.1 188 (v1.toNatClampNeg)), .int (3 : Int32)]) (r := []) ri_290_7 rfl rm_286.2.2.2 rfl rfl rfl (Nat.le_of_ble_eq_true rfl) (by decide) (by decide) (xs_286 (X := X) hL) ?_
  rintro _ _ ⟨e1, e2⟩
  rw [e1, e2]
  show ro_w X _ 290 _ 10 [(0, .ref 163), (1, .int v1), (2, .int v2)] [.int (ro_b (xf_286 M (M.2.1 188 (v1.toNatClampNeg)) (3 : Int32)))] M (0, 0)
  refine rs_ifeq_c (t := 28) ri_290_10 rfl rfl (fun h2 => ?_) (fun h2 => ?_)
  · have hp := hp.2 h2
    refine rs_aload_n ri_290_28 rfl rfl ?_
    refine rs_gf (v := .ref 188) ri_290_29 rfl (by decide) (ro_kf (kd_163 hL)) rfl (rf_163_50 hL) ?_
    refine rs_iload_n ri_290_32 rfl rfl ?_
    obtain ⟨q2, hp⟩ := hp
    refine rs_iald (v := (M.2.1 188 (v1.toNatClampNeg))) ri_290_33 rfl (by decide) (kd_188 hL) q2 rfl ?_
    refine rs_bipush (v := (7 : Int32)) ri_290_34 rfl (by decide) ?_
    refine rs_icmp_ne (t := 61) ri_290_36 rfl rfl (fun h4 => ?_) (fun h4 => ?_)
    · have hp := hp.2 h4
      refine rs_aload_n ri_290_61 rfl rfl ?_
      refine rs_gf (v := .ref 188) ri_290_62 rfl (by decide) (ro_kf (kd_163 hL)) rfl (rf_163_50 hL) ?_
      refine rs_iload_n ri_290_65 rfl rfl ?_
      obtain ⟨q4, hp⟩ := hp
      refine rs_iald (v := (M.2.1 188 (v1.toNatClampNeg))) ri_290_66 rfl (by decide) (kd_188 hL) q4 rfl ?_
      refine rs_iconst (v := (2 : Int32)) ri_290_67 rfl (by decide) ?_
      refine rs_icmp_ne (t := 80) ri_290_68 rfl rfl (fun h6 => ?_) (fun h6 => ?_)
      · have hp := hp.2 h6
        refine rs_aload_n ri_290_80 rfl rfl ?_
        refine rs_iload_n ri_290_81 rfl rfl ?_
        refine rs_iload_n ri_290_82 rfl rfl ?_
        obtain ⟨q6, hp⟩ := hp
        refine rs_virt (As := [.int v1, .int v2]) (r := []) ri_290_83 rfl (by decide) rm_292.2.2.2 rm_292.2.2.1 rfl rfl rfl (by decide) (ro_kf (kd_163 hL)) (Nat.le_of_ble_eq_true rfl) (by decide) (by decide) (xs_292 (X := X) hL q6) ?_
        rintro _ _ ⟨e1, e2⟩
        rw [e1, e2]
        show ro_w X _ 290 _ 86 [(0, .ref 163), (1, .int v1), (2, .int v2)] [.int (xf_292 M v1 v2)] (xm_292 M v1 v2) (0, 0)
        refine rs_iret ri_290_86 rm_290.2.1 (by decide) ?_
        exact ⟨by unfold xf_290; first | (simp only [if_neg h2, if_neg h4, if_neg h6]; done) | rfl, by unfold xm_290; first | (simp only [if_neg h2, if_neg h4, if_neg h6]; done) | rfl⟩
      · have hp := hp.1 h6
        refine rs_aload_n ri_290_71 rfl rfl ?_
        refine rs_iload_n ri_290_72 rfl rfl ?_
        refine rs_iload_n ri_290_73 rfl rfl ?_
        obtain ⟨q7, hp⟩ := hp
        refine rs_virt (As := [.int v1, .int v2]) (r := []) ri_290_74 rfl (by decide) rm_291.2.2.2 rm_291.2.2.1 rfl rfl rfl (by decide) (ro_kf (kd_163 hL)) (Nat.le_of_ble_eq_true rfl) (by decide) (by decide) (xs_291 (X := X) hL q7) ?_
        rintro _ _ ⟨e1, e2⟩
        rw [e1, e2]
        show ro_w X _ 290 _ 77 [(0, .ref 163), (1, .int v1), (2, .int v2)] [.int (xf_291 M v1 v2)] (xm_291 M v1 v2) (0, 0)
        refine rs_goto (t := 86) ri_290_77 rfl ?_
        refine rs_iret ri_290_86 rm_290.2.1 (by decide) ?_
        exact ⟨by unfold xf_290; first | (simp only [if_neg h2, if_neg h4, if_pos h6]; done) | rfl, by unfold xm_290; first | (simp only [if_neg h2, if_neg h4, if_pos h6]; done) | rfl⟩
    · have hp := hp.1 h4
      refine rs_aload_n ri_290_39 rfl rfl ?_
      refine rs_bipush (v := (80 : Int32)) ri_290_40 rfl (by decide) ?_
      obtain ⟨q8, hp⟩ := hp
      refine rs_virt (As := [.int (80 : Int32)]) (r := []) ri_290_42 rfl (by decide) rm_287.2.2.2 rm_287.2.2.1 rfl rfl rfl (by decide) (ro_kf (kd_163 hL)) (Nat.le_of_ble_eq_true rfl) (by decide) (by decide) (xs_287 (X := X) hL q8) ?_
      rintro _ _ ⟨e1, e2⟩
      rw [e1, e2]
      show ro_w X _ 290 _ 45 [(0, .ref 163), (1, .int v1), (2, .int v2)] [] (xm_287 M (80 : Int32)) (0, 0)
      refine rs_aload_n ri_290_45 rfl rfl ?_
      refine rs_iload_n ri_290_46 rfl rfl ?_
      refine rs_iload_n ri_290_47 rfl rfl ?_
      obtain ⟨q9, hp⟩ := hp
      refine rs_virt (As := [.int v1, .int v2]) (r := []) ri_290_48 rfl (by decide) rm_292.2.2.2 rm_292.2.2.1 rfl rfl rfl (by decide) (ro_kf (kd_163 (xl_287 hL q8))) (Nat.le_of_ble_eq_true rfl) (by decide) (by decide) (xs_292 (X := X) (xl_287 hL q8) q9) ?_
      rintro _ _ ⟨e1, e2⟩
      rw [e1, e2]
      show ro_w X _ 290 _ 51 [(0, .ref 163), (1, .int v1), (2, .int v2)] [.int (xf_292 (xm_287 M (80 : Int32)) v1 v2)] (xm_292 (xm_287 M (80 : Int32)) v1 v2) (0, 0)
      refine rs_istore_n (lv2 := [(3, .int (xf_292 (xm_287 M (80 : Int32)) v1 v2)), (0, .ref 163), (1, .int v1), (2, .int v2)]) ri_290_51 rfl rm_290.1 (by decide) rfl ?_
      refine rs_iload_n ri_290_52 rfl rfl ?_
      refine rs_aload_n ri_290_53 rfl rfl ?_
      refine rs_iload_n ri_290_54 rfl rfl ?_
      refine rs_iconst (v := (2 : Int32)) ri_290_55 rfl (by decide) ?_
      obtain ⟨q10, hp⟩ := hp
      refine rs_virt (As := [.int v1, .int (2 : Int32)]) (r := [.int (xf_292 (xm_287 M (80 : Int32)) v1 v2)]) ri_290_56 rfl (by decide) rm_293.2.2.2 rm_293.2.2.1 rfl rfl rfl (by decide) (ro_kf (kd_163 (xl_292 (xl_287 hL q8) q9))) (Nat.le_of_ble_eq_true rfl) (by decide) (by decide) (xs_293 (X := X) (xl_292 (xl_287 hL q8) q9) q10) ?_
      rintro _ _ ⟨e1, e2⟩
      rw [e1, e2]
      show ro_w X _ 290 _ 59 [(3, .int (xf_292 (xm_287 M (80 : Int32)) v1 v2)), (0, .ref 163), (1, .int v1), (2, .int v2)] [.int (xf_293 (xm_292 (xm_287 M (80 : Int32)) v1 v2) v1 (2 : Int32)), .int (xf_292 (xm_287 M (80 : Int32)) v1 v2)] (xm_293 (xm_292 (xm_287 M (80 : Int32)) v1 v2) v1 (2 : Int32)) (0, 0)
      refine rs_iadd (r := ((xf_292 (xm_287 M (80 : Int32)) v1 v2) + (xf_293 (xm_292 (xm_287 M (80 : Int32)) v1 v2) v1 (2 : Int32)))) ri_290_59 rfl rfl ?_
      refine rs_iret ri_290_60 rm_290.2.1 (by decide) ?_
      exact ⟨by unfold xf_290; first | (simp only [if_neg h2, if_pos h4]; done) | rfl, by unfold xm_290; first | (simp only [if_neg h2, if_pos h4]; done) | rfl⟩
  · have hp := hp.1 h2
    refine rs_aload_n ri_290_13 rfl rfl ?_
    refine rs_bipush (v := (41 : Int32)) ri_290_14 rfl (by decide) ?_
    obtain ⟨q11, hp⟩ := hp
    refine rs_virt (As := [.int (41 : Int32)]) (r := []) ri_290_16 rfl (by decide) rm_287.2.2.2 rm_287.2.2.1 rfl rfl rfl (by decide) (ro_kf (kd_163 hL)) (Nat.le_of_ble_eq_true rfl) (by decide) (by decide) (xs_287 (X := X) hL q11) ?_
    rintro _ _ ⟨e1, e2⟩
    rw [e1, e2]
    show ro_w X _ 290 _ 19 [(0, .ref 163), (1, .int v1), (2, .int v2)] [] (xm_287 M (41 : Int32)) (0, 0)
    refine rs_aload_n ri_290_19 rfl rfl ?_
    refine rs_iload_n ri_290_20 rfl rfl ?_
    refine rs_iload_n ri_290_21 rfl rfl ?_
    refine rs_iconst (v := (1 : Int32)) ri_290_22 rfl (by decide) ?_
    refine rs_iadd (r := (v2 + (1 : Int32))) ri_290_23 rfl rfl ?_
    obtain ⟨q12, hp⟩ := hp
    refine rs_virt (As := [.int v1, .int (v2 + (1 : Int32))]) (r := []) ri_290_24 rfl (by decide) rm_291.2.2.2 rm_291.2.2.1 rfl rfl rfl (by decide) (ro_kf (kd_163 (xl_287 hL q11))) (Nat.le_of_ble_eq_true rfl) (by decide) (by decide) (xs_291 (X := X) (xl_287 hL q11) q12) ?_
    rintro _ _ ⟨e1, e2⟩
    rw [e1, e2]
    show ro_w X _ 290 _ 27 [(0, .ref 163), (1, .int v1), (2, .int v2)] [.int (xf_291 (xm_287 M (41 : Int32)) v1 (v2 + (1 : Int32)))] (xm_291 (xm_287 M (41 : Int32)) v1 (v2 + (1 : Int32))) (0, 0)
    refine rs_iret ri_290_27 rm_290.2.1 (by decide) ?_
    exact ⟨by unfold xf_290; first | (simp only [if_pos h2]; done) | rfl, by unfold xm_290; first | (simp only [if_pos h2]; done) | rfl⟩
theorem xl_290 {M : ro_Mm} {v1 : Int32} {v2 : Int32} (hL : ro_lay M) (hp : xp_290 M v1 v2) : ro_lay (xm_290 M v1 v2) := by
  unfold xp_290 at hp
  unfold xm_290
  obtain ⟨q0, hp⟩ := hp
  by_cases hz : (xf_286 M (M.2.1 188 (v1.toNatClampNeg)) (3 : Int32))
  · have hp := hp.1 hz
    rw [if_pos hz]
    obtain ⟨q11, hp⟩ := hp
    obtain ⟨q12, hp⟩ := hp
    exact (xl_291 (xl_287 hL q11) q12)
  · have hp := hp.2 hz
    rw [if_neg hz]
    obtain ⟨q2, hp⟩ := hp
    by_cases hz : (M.2.1 188 (v1.toNatClampNeg)) = (7 : Int32)
    · have hp := hp.1 hz
      rw [if_pos hz]
      obtain ⟨q8, hp⟩ := hp
      obtain ⟨q9, hp⟩ := hp
      obtain ⟨q10, hp⟩ := hp
      exact (xl_293 (xl_292 (xl_287 hL q8) q9) q10)
    · have hp := hp.2 hz
      rw [if_neg hz]
      obtain ⟨q4, hp⟩ := hp
      by_cases hz : (M.2.1 188 (v1.toNatClampNeg)) = (2 : Int32)
      · have hp := hp.1 hz
        rw [if_pos hz]
        obtain ⟨q7, hp⟩ := hp
        exact (xl_291 hL q7)
      · have hp := hp.2 hz
        rw [if_neg hz]
        obtain ⟨q6, hp⟩ := hp
        exact (xl_292 hL q6)
theorem xwI_290 {M : ro_Mm} {v1 : Int32} {v2 : Int32} {c j : Nat} (n0 : c ≠ 163) (n1 : c ≠ 189) : (xm_290 M v1 v2).2.1 c j = M.2.1 c j := by
  unfold xm_290
  by_cases hz : (xf_286 M (M.2.1 188 (v1.toNatClampNeg)) (3 : Int32))
  · rw [if_pos hz]
    first | done | exact (((xwI_291 n0 n1)).trans (xwI_287 n0 n1))
  · rw [if_neg hz]
    by_cases hz : (M.2.1 188 (v1.toNatClampNeg)) = (7 : Int32)
    · rw [if_pos hz]
      first | done | exact ((((xwI_293 n0 n1)).trans (xwI_292 n0 n1)).trans (xwI_287 n0 n1))
    · rw [if_neg hz]
      by_cases hz : (M.2.1 188 (v1.toNatClampNeg)) = (2 : Int32)
      · rw [if_pos hz]
        first | done | exact (xwI_291 n0 n1)
      · rw [if_neg hz]
        first | done | exact (xwI_292 n0 n1)
theorem xwJ_290 {M : ro_Mm} {v1 : Int32} {v2 : Int32} {c j : Nat} : (xm_290 M v1 v2).2.2.1 c j = M.2.2.1 c j := by
  unfold xm_290
  by_cases hz : (xf_286 M (M.2.1 188 (v1.toNatClampNeg)) (3 : Int32))
  · rw [if_pos hz]
    first | done | exact (((xwJ_291)).trans (xwJ_287))
  · rw [if_neg hz]
    by_cases hz : (M.2.1 188 (v1.toNatClampNeg)) = (7 : Int32)
    · rw [if_pos hz]
      first | done | exact ((((xwJ_293)).trans (xwJ_292)).trans (xwJ_287))
    · rw [if_neg hz]
      by_cases hz : (M.2.1 188 (v1.toNatClampNeg)) = (2 : Int32)
      · rw [if_pos hz]
        first | done | exact (xwJ_291)
      · rw [if_neg hz]
        first | done | exact (xwJ_292)
/-- RefusedOnceModel.plainTells(II)I -/
def xf_297 (M : ro_Mm) (v1 : Int32) (v2 : Int32) : Int32 := ((xf_290 (xm_287 M (2 : Int32)) v1 v2) - (xf_293 (xm_290 (xm_287 M (2 : Int32)) v1 v2) v1 (1 : Int32)))
def xm_297 (M : ro_Mm) (v1 : Int32) (v2 : Int32) : ro_Mm := (xm_293 (xm_290 (xm_287 M (2 : Int32)) v1 v2) v1 (1 : Int32))
def xp_297 (M : ro_Mm) (v1 : Int32) (v2 : Int32) : Prop := (xp_287 M (2 : Int32) ∧ (xp_290 (xm_287 M (2 : Int32)) v1 v2 ∧ (xp_293 (xm_290 (xm_287 M (2 : Int32)) v1 v2) v1 (1 : Int32) ∧ True)))
theorem xs_297 {X : ro_Sx} {M : ro_Mm} {v1 : Int32} {v2 : Int32} (hL : ro_lay M) (hp : xp_297 M v1 v2) : ro_cwp X 8 297 [.ref 163, .int v1, .int v2] M (fun v M2 => v = some (.int (xf_297 M v1 v2)) ∧ M2 = xm_297 M v1 v2) := by
  refine rs_begin (lv0 := [(0, .ref 163), (1, .int v1), (2, .int v2)]) (by decide) rfl (by rw [rm_297.1]; exact Nat.le_of_ble_eq_true rfl) rfl ?_
  unfold xp_297 at hp
  refine rs_aload_n ri_297_0 rfl rfl ?_
  refine rs_iconst (v := (2 : Int32)) ri_297_1 rfl (by decide) ?_
  obtain ⟨q0, hp⟩ := hp
  refine rs_virt (As := [.int (2 : Int32)]) (r := []) ri_297_2 rfl (by decide) rm_287.2.2.2 rm_287.2.2.1 rfl rfl rfl (by decide) (ro_kf (kd_163 hL)) (Nat.le_of_ble_eq_true rfl) (by decide) (by decide) (xs_287 (X := X) hL q0) ?_
  rintro _ _ ⟨e1, e2⟩
  rw [e1, e2]
  show ro_w X _ 297 _ 5 [(0, .ref 163), (1, .int v1), (2, .int v2)] [] (xm_287 M (2 : Int32)) (0, 0)
  refine rs_aload_n ri_297_5 rfl rfl ?_
  refine rs_iload_n ri_297_6 rfl rfl ?_
  refine rs_iload_n ri_297_7 rfl rfl ?_
  obtain ⟨q1, hp⟩ := hp
  refine rs_virt (As := [.int v1, .int v2]) (r := []) ri_297_8 rfl (by decide) rm_290.2.2.2 rm_290.2.2.1 rfl rfl rfl (by decide) (ro_kf (kd_163 (xl_287 hL q0))) (Nat.le_of_ble_eq_true rfl) (by decide) (by decide) (xs_290 (X := X) (xl_287 hL q0) q1) ?_
  rintro _ _ ⟨e1, e2⟩
  rw [e1, e2]
  show ro_w X _ 297 _ 11 [(0, .ref 163), (1, .int v1), (2, .int v2)] [.int (xf_290 (xm_287 M (2 : Int32)) v1 v2)] (xm_290 (xm_287 M (2 : Int32)) v1 v2) (0, 0)
  refine rs_istore_n (lv2 := [(3, .int (xf_290 (xm_287 M (2 : Int32)) v1 v2)), (0, .ref 163), (1, .int v1), (2, .int v2)]) ri_297_11 rfl rm_297.1 (by decide) rfl ?_
  refine rs_iload_n ri_297_12 rfl rfl ?_
  refine rs_aload_n ri_297_13 rfl rfl ?_
  refine rs_iload_n ri_297_14 rfl rfl ?_
  refine rs_iconst (v := (1 : Int32)) ri_297_15 rfl (by decide) ?_
  obtain ⟨q2, hp⟩ := hp
  refine rs_virt (As := [.int v1, .int (1 : Int32)]) (r := [.int (xf_290 (xm_287 M (2 : Int32)) v1 v2)]) ri_297_16 rfl (by decide) rm_293.2.2.2 rm_293.2.2.1 rfl rfl rfl (by decide) (ro_kf (kd_163 (xl_290 (xl_287 hL q0) q1))) (Nat.le_of_ble_eq_true rfl) (by decide) (by decide) (xs_293 (X := X) (xl_290 (xl_287 hL q0) q1) q2) ?_
  rintro _ _ ⟨e1, e2⟩
  rw [e1, e2]
  show ro_w X _ 297 _ 19 [(3, .int (xf_290 (xm_287 M (2 : Int32)) v1 v2)), (0, .ref 163), (1, .int v1), (2, .int v2)] [.int (xf_293 (xm_290 (xm_287 M (2 : Int32)) v1 v2) v1 (1 : Int32)), .int (xf_290 (xm_287 M (2 : Int32)) v1 v2)] (xm_293 (xm_290 (xm_287 M (2 : Int32)) v1 v2) v1 (1 : Int32)) (0, 0)
  refine rs_isub (r := ((xf_290 (xm_287 M (2 : Int32)) v1 v2) - (xf_293 (xm_290 (xm_287 M (2 : Int32)) v1 v2) v1 (1 : Int32)))) ri_297_19 rfl rfl ?_
  refine rs_iret ri_297_20 rm_297.2.1 (by decide) ?_
  exact ⟨by rfl, by rfl⟩
theorem xl_297 {M : ro_Mm} {v1 : Int32} {v2 : Int32} (hL : ro_lay M) (hp : xp_297 M v1 v2) : ro_lay (xm_297 M v1 v2) := by
  unfold xp_297 at hp
  unfold xm_297
  obtain ⟨q0, hp⟩ := hp
  obtain ⟨q1, hp⟩ := hp
  obtain ⟨q2, hp⟩ := hp
  exact (xl_293 (xl_290 (xl_287 hL q0) q1) q2)
theorem xwI_297 {M : ro_Mm} {v1 : Int32} {v2 : Int32} {c j : Nat} (n0 : c ≠ 163) (n1 : c ≠ 189) : (xm_297 M v1 v2).2.1 c j = M.2.1 c j := by
  unfold xm_297
  first | done | exact ((((xwI_293 n0 n1)).trans (xwI_290 n0 n1)).trans (xwI_287 n0 n1))
theorem xwJ_297 {M : ro_Mm} {v1 : Int32} {v2 : Int32} {c j : Nat} : (xm_297 M v1 v2).2.2.1 c j = M.2.2.1 c j := by
  unfold xm_297
  first | done | exact ((((xwJ_293)).trans (xwJ_290)).trans (xwJ_287))
/-- RefusedOnceModel.telling(II)I -/
def xf_296 (M : ro_Mm) (v1 : Int32) (v2 : Int32) : Int32 := (if (M.2.1 188 (v1.toNatClampNeg)) = (4 : Int32) then ((xf_297 (xm_287 M (50 : Int32)) v1 v2) ^^^ (5 : Int32)) else (if (M.2.1 188 (v1.toNatClampNeg)) = (5 : Int32) then ((xf_297 (xm_287 M (61 : Int32)) v1 v2) + (1 : Int32)) else (xf_297 M v1 v2)))
def xm_296 (M : ro_Mm) (v1 : Int32) (v2 : Int32) : ro_Mm := (if (M.2.1 188 (v1.toNatClampNeg)) = (4 : Int32) then (xm_297 (xm_287 M (50 : Int32)) v1 v2) else (if (M.2.1 188 (v1.toNatClampNeg)) = (5 : Int32) then (xm_297 (xm_287 M (61 : Int32)) v1 v2) else (xm_297 M v1 v2)))
def xp_296 (M : ro_Mm) (v1 : Int32) (v2 : Int32) : Prop := (vp_in v1 50 ∧ (((M.2.1 188 (v1.toNatClampNeg)) = (4 : Int32) → (xp_287 M (50 : Int32) ∧ (xp_297 (xm_287 M (50 : Int32)) v1 v2 ∧ True))) ∧ (¬ ((M.2.1 188 (v1.toNatClampNeg)) = (4 : Int32)) → (vp_in v1 50 ∧ (((M.2.1 188 (v1.toNatClampNeg)) = (5 : Int32) → (xp_287 M (61 : Int32) ∧ (xp_297 (xm_287 M (61 : Int32)) v1 v2 ∧ True))) ∧ (¬ ((M.2.1 188 (v1.toNatClampNeg)) = (5 : Int32)) → (xp_297 M v1 v2 ∧ True)))))))
theorem xs_296 {X : ro_Sx} {M : ro_Mm} {v1 : Int32} {v2 : Int32} (hL : ro_lay M) (hp : xp_296 M v1 v2) : ro_cwp X 9 296 [.ref 163, .int v1, .int v2] M (fun v M2 => v = some (.int (xf_296 M v1 v2)) ∧ M2 = xm_296 M v1 v2) := by
  refine rs_begin (lv0 := [(0, .ref 163), (1, .int v1), (2, .int v2)]) (by decide) rfl (by rw [rm_296.1]; exact Nat.le_of_ble_eq_true rfl) rfl ?_
  unfold xp_296 at hp
  refine rs_aload_n ri_296_0 rfl rfl ?_
  refine rs_gf (v := .ref 188) ri_296_1 rfl (by decide) (ro_kf (kd_163 hL)) rfl (rf_163_50 hL) ?_
  refine rs_iload_n ri_296_4 rfl rfl ?_
  obtain ⟨q0, hp⟩ := hp
  refine rs_iald (v := (M.2.1 188 (v1.toNatClampNeg))) ri_296_5 rfl (by decide) (kd_188 hL) q0 rfl ?_
  refine rs_iconst (v := (4 : Int32)) ri_296_6 rfl (by decide) ?_
  refine rs_icmp_ne (t := 25) ri_296_7 rfl rfl (fun h2 => ?_) (fun h2 => ?_)
  · have hp := hp.2 h2
    refine rs_aload_n ri_296_25 rfl rfl ?_
    refine rs_gf (v := .ref 188) ri_296_26 rfl (by decide) (ro_kf (kd_163 hL)) rfl (rf_163_50 hL) ?_
    refine rs_iload_n ri_296_29 rfl rfl ?_
    obtain ⟨q2, hp⟩ := hp
    refine rs_iald (v := (M.2.1 188 (v1.toNatClampNeg))) ri_296_30 rfl (by decide) (kd_188 hL) q2 rfl ?_
    refine rs_iconst (v := (5 : Int32)) ri_296_31 rfl (by decide) ?_
    refine rs_icmp_ne (t := 50) ri_296_32 rfl rfl (fun h4 => ?_) (fun h4 => ?_)
    · have hp := hp.2 h4
      refine rs_aload_n ri_296_50 rfl rfl ?_
      refine rs_iload_n ri_296_51 rfl rfl ?_
      refine rs_iload_n ri_296_52 rfl rfl ?_
      obtain ⟨q4, hp⟩ := hp
      refine rs_virt (As := [.int v1, .int v2]) (r := []) ri_296_53 rfl (by decide) rm_297.2.2.2 rm_297.2.2.1 rfl rfl rfl (by decide) (ro_kf (kd_163 hL)) (Nat.le_of_ble_eq_true rfl) (by decide) (by decide) (xs_297 (X := X) hL q4) ?_
      rintro _ _ ⟨e1, e2⟩
      rw [e1, e2]
      show ro_w X _ 296 _ 56 [(0, .ref 163), (1, .int v1), (2, .int v2)] [.int (xf_297 M v1 v2)] (xm_297 M v1 v2) (0, 0)
      refine rs_iret ri_296_56 rm_296.2.1 (by decide) ?_
      exact ⟨by unfold xf_296; first | (simp only [if_neg h2, if_neg h4]; done) | rfl, by unfold xm_296; first | (simp only [if_neg h2, if_neg h4]; done) | rfl⟩
    · have hp := hp.1 h4
      refine rs_aload_n ri_296_35 rfl rfl ?_
      refine rs_bipush (v := (61 : Int32)) ri_296_36 rfl (by decide) ?_
      obtain ⟨q5, hp⟩ := hp
      refine rs_virt (As := [.int (61 : Int32)]) (r := []) ri_296_38 rfl (by decide) rm_287.2.2.2 rm_287.2.2.1 rfl rfl rfl (by decide) (ro_kf (kd_163 hL)) (Nat.le_of_ble_eq_true rfl) (by decide) (by decide) (xs_287 (X := X) hL q5) ?_
      rintro _ _ ⟨e1, e2⟩
      rw [e1, e2]
      show ro_w X _ 296 _ 41 [(0, .ref 163), (1, .int v1), (2, .int v2)] [] (xm_287 M (61 : Int32)) (0, 0)
      refine rs_aload_n ri_296_41 rfl rfl ?_
      refine rs_iload_n ri_296_42 rfl rfl ?_
      refine rs_iload_n ri_296_43 rfl rfl ?_
      obtain ⟨q6, hp⟩ := hp
      refine rs_virt (As := [.int v1, .int v2]) (r := []) ri_296_44 rfl (by decide) rm_297.2.2.2 rm_297.2.2.1 rfl rfl rfl (by decide) (ro_kf (kd_163 (xl_287 hL q5))) (Nat.le_of_ble_eq_true rfl) (by decide) (by decide) (xs_297 (X := X) (xl_287 hL q5) q6) ?_
      rintro _ _ ⟨e1, e2⟩
      rw [e1, e2]
      show ro_w X _ 296 _ 47 [(0, .ref 163), (1, .int v1), (2, .int v2)] [.int (xf_297 (xm_287 M (61 : Int32)) v1 v2)] (xm_297 (xm_287 M (61 : Int32)) v1 v2) (0, 0)
      refine rs_iconst (v := (1 : Int32)) ri_296_47 rfl (by decide) ?_
      refine rs_iadd (r := ((xf_297 (xm_287 M (61 : Int32)) v1 v2) + (1 : Int32))) ri_296_48 rfl rfl ?_
      refine rs_iret ri_296_49 rm_296.2.1 (by decide) ?_
      exact ⟨by unfold xf_296; first | (simp only [if_neg h2, if_pos h4]; done) | rfl, by unfold xm_296; first | (simp only [if_neg h2, if_pos h4]; done) | rfl⟩
  · have hp := hp.1 h2
    refine rs_aload_n ri_296_10 rfl rfl ?_
    refine rs_bipush (v := (50 : Int32)) ri_296_11 rfl (by decide) ?_
    obtain ⟨q7, hp⟩ := hp
    refine rs_virt (As := [.int (50 : Int32)]) (r := []) ri_296_13 rfl (by decide) rm_287.2.2.2 rm_287.2.2.1 rfl rfl rfl (by decide) (ro_kf (kd_163 hL)) (Nat.le_of_ble_eq_true rfl) (by decide) (by decide) (xs_287 (X := X) hL q7) ?_
    rintro _ _ ⟨e1, e2⟩
    rw [e1, e2]
    show ro_w X _ 296 _ 16 [(0, .ref 163), (1, .int v1), (2, .int v2)] [] (xm_287 M (50 : Int32)) (0, 0)
    refine rs_aload_n ri_296_16 rfl rfl ?_
    refine rs_iload_n ri_296_17 rfl rfl ?_
    refine rs_iload_n ri_296_18 rfl rfl ?_
    obtain ⟨q8, hp⟩ := hp
    refine rs_virt (As := [.int v1, .int v2]) (r := []) ri_296_19 rfl (by decide) rm_297.2.2.2 rm_297.2.2.1 rfl rfl rfl (by decide) (ro_kf (kd_163 (xl_287 hL q7))) (Nat.le_of_ble_eq_true rfl) (by decide) (by decide) (xs_297 (X := X) (xl_287 hL q7) q8) ?_
    rintro _ _ ⟨e1, e2⟩
    rw [e1, e2]
    show ro_w X _ 296 _ 22 [(0, .ref 163), (1, .int v1), (2, .int v2)] [.int (xf_297 (xm_287 M (50 : Int32)) v1 v2)] (xm_297 (xm_287 M (50 : Int32)) v1 v2) (0, 0)
    refine rs_iconst (v := (5 : Int32)) ri_296_22 rfl (by decide) ?_
    refine rs_ixor (r := ((xf_297 (xm_287 M (50 : Int32)) v1 v2) ^^^ (5 : Int32))) ri_296_23 rfl rfl ?_
    refine rs_iret ri_296_24 rm_296.2.1 (by decide) ?_
    exact ⟨by unfold xf_296; first | (simp only [if_pos h2]; done) | rfl, by unfold xm_296; first | (simp only [if_pos h2]; done) | rfl⟩
theorem xl_296 {M : ro_Mm} {v1 : Int32} {v2 : Int32} (hL : ro_lay M) (hp : xp_296 M v1 v2) : ro_lay (xm_296 M v1 v2) := by
  unfold xp_296 at hp
  unfold xm_296
  obtain ⟨q0, hp⟩ := hp
  by_cases hz : (M.2.1 188 (v1.toNatClampNeg)) = (4 : Int32)
  · have hp := hp.1 hz
    rw [if_pos hz]
    obtain ⟨q7, hp⟩ := hp
    obtain ⟨q8, hp⟩ := hp
    exact (xl_297 (xl_287 hL q7) q8)
  · have hp := hp.2 hz
    rw [if_neg hz]
    obtain ⟨q2, hp⟩ := hp
    by_cases hz : (M.2.1 188 (v1.toNatClampNeg)) = (5 : Int32)
    · have hp := hp.1 hz
      rw [if_pos hz]
      obtain ⟨q5, hp⟩ := hp
      obtain ⟨q6, hp⟩ := hp
      exact (xl_297 (xl_287 hL q5) q6)
    · have hp := hp.2 hz
      rw [if_neg hz]
      obtain ⟨q4, hp⟩ := hp
      exact (xl_297 hL q4)
theorem xwI_296 {M : ro_Mm} {v1 : Int32} {v2 : Int32} {c j : Nat} (n0 : c ≠ 163) (n1 : c ≠ 189) : (xm_296 M v1 v2).2.1 c j = M.2.1 c j := by
  unfold xm_296
  by_cases hz : (M.2.1 188 (v1.toNatClampNeg)) = (4 : Int32)
  · rw [if_pos hz]
    first | done | exact (((xwI_297 n0 n1)).trans (xwI_287 n0 n1))
  · rw [if_neg hz]
    by_cases hz : (M.2.1 188 (v1.toNatClampNeg)) = (5 : Int32)
    · rw [if_pos hz]
      first | done | exact (((xwI_297 n0 n1)).trans (xwI_287 n0 n1))
    · rw [if_neg hz]
      first | done | exact (xwI_297 n0 n1)
theorem xwJ_296 {M : ro_Mm} {v1 : Int32} {v2 : Int32} {c j : Nat} : (xm_296 M v1 v2).2.2.1 c j = M.2.2.1 c j := by
  unfold xm_296
  by_cases hz : (M.2.1 188 (v1.toNatClampNeg)) = (4 : Int32)
  · rw [if_pos hz]
    first | done | exact (((xwJ_297)).trans (xwJ_287))
  · rw [if_neg hz]
    by_cases hz : (M.2.1 188 (v1.toNatClampNeg)) = (5 : Int32)
    · rw [if_pos hz]
      first | done | exact (((xwJ_297)).trans (xwJ_287))
    · rw [if_neg hz]
      first | done | exact (xwJ_297)
/-- RefusedOnceModel.act(III)I -/
def xf_283 (M : ro_Mm) (v1 : Int32) (v2 : Int32) (v3 : Int32) : Int32 := (if (xf_284 (ro_sI M 163 51 (0 : Int32)) v1) then (if (xf_195 (ro_sI M 163 51 (0 : Int32)) v2 (0 : Int32) (3 : Int32)) then (if v2 = (0 : Int32) then (xf_285 (ro_sI M 163 51 (0 : Int32)) v1 v3) else (if v2 = (1 : Int32) then (xf_290 (ro_sI M 163 51 (0 : Int32)) v1 v3) else (if v2 = (2 : Int32) then (xf_293 (ro_sI M 163 51 (0 : Int32)) v1 v3) else (xf_296 (ro_sI M 163 51 (0 : Int32)) v1 v3)))) else (0 : Int32)) else (0 : Int32))
def xm_283 (M : ro_Mm) (v1 : Int32) (v2 : Int32) (v3 : Int32) : ro_Mm := (if (xf_284 (ro_sI M 163 51 (0 : Int32)) v1) then (if (xf_195 (ro_sI M 163 51 (0 : Int32)) v2 (0 : Int32) (3 : Int32)) then (if v2 = (0 : Int32) then (xm_285 (ro_sI M 163 51 (0 : Int32)) v1 v3) else (if v2 = (1 : Int32) then (xm_290 (ro_sI M 163 51 (0 : Int32)) v1 v3) else (if v2 = (2 : Int32) then (xm_293 (ro_sI M 163 51 (0 : Int32)) v1 v3) else (xm_296 (ro_sI M 163 51 (0 : Int32)) v1 v3)))) else (ro_sI M 163 51 (0 : Int32))) else (ro_sI M 163 51 (0 : Int32)))
def xp_283 (M : ro_Mm) (v1 : Int32) (v2 : Int32) (v3 : Int32) : Prop := (((xf_284 (ro_sI M 163 51 (0 : Int32)) v1) → (((xf_195 (ro_sI M 163 51 (0 : Int32)) v2 (0 : Int32) (3 : Int32)) → ((v2 = (0 : Int32) → (xp_285 (ro_sI M 163 51 (0 : Int32)) v1 v3 ∧ True)) ∧ (¬ (v2 = (0 : Int32)) → ((v2 = (1 : Int32) → (xp_290 (ro_sI M 163 51 (0 : Int32)) v1 v3 ∧ True)) ∧ (¬ (v2 = (1 : Int32)) → ((v2 = (2 : Int32) → (xp_293 (ro_sI M 163 51 (0 : Int32)) v1 v3 ∧ True)) ∧ (¬ (v2 = (2 : Int32)) → (xp_296 (ro_sI M 163 51 (0 : Int32)) v1 v3 ∧ True)))))))) ∧ (¬ ((xf_195 (ro_sI M 163 51 (0 : Int32)) v2 (0 : Int32) (3 : Int32))) → True))) ∧ (¬ ((xf_284 (ro_sI M 163 51 (0 : Int32)) v1)) → True))
theorem xs_283 {X : ro_Sx} {M : ro_Mm} {v1 : Int32} {v2 : Int32} {v3 : Int32} (hL : ro_lay M) (hp : xp_283 M v1 v2 v3) : ro_cwp X 10 283 [.ref 163, .int v1, .int v2, .int v3] M (fun v M2 => v = some (.int (xf_283 M v1 v2 v3)) ∧ M2 = xm_283 M v1 v2 v3) := by
  refine rs_begin (lv0 := [(0, .ref 163), (1, .int v1), (2, .int v2), (3, .int v3)]) (by decide) rfl (by rw [rm_283.1]; exact Nat.le_of_ble_eq_true rfl) rfl ?_
  unfold xp_283 at hp
  refine rs_aload_n ri_283_0 rfl rfl ?_
  refine rs_iconst (v := (0 : Int32)) ri_283_1 rfl (by decide) ?_
  refine rs_pf (M2 := (ro_sI M 163 51 (0 : Int32))) ri_283_2 rfl (by decide) (ro_kf (kd_163 hL)) (fun h => absurd h (by decide)) (fun f h => h) ?_
  refine rs_aload_n ri_283_5 rfl rfl ?_
  refine rs_iload_n ri_283_6 rfl rfl ?_
  refine rs_virt (As := [.int v1]) (r := []) ri_283_7 rfl (by decide) rm_284.2.2.2 rm_284.2.2.1 rfl rfl rfl (by decide) (ro_kf (kd_163 hL)) (Nat.le_of_ble_eq_true rfl) (by decide) (by decide) (xs_284 (X := X) hL) ?_
  rintro _ _ ⟨e1, e2⟩
  rw [e1, e2]
  show ro_w X _ 283 _ 10 [(0, .ref 163), (1, .int v1), (2, .int v2), (3, .int v3)] [.int (ro_b (xf_284 (ro_sI M 163 51 (0 : Int32)) v1))] (ro_sI M 163 51 (0 : Int32)) (0, 0)
  refine rs_ifeq_c (t := 22) ri_283_10 rfl rfl (fun h1 => ?_) (fun h1 => ?_)
  · have hp := hp.2 h1
    refine rs_iconst (v := (0 : Int32)) ri_283_22 rfl (by decide) ?_
    refine rs_iret ri_283_23 rm_283.2.1 (by decide) ?_
    exact ⟨by unfold xf_283; first | (simp only [if_neg h1]; done) | rfl, by unfold xm_283; first | (simp only [if_neg h1]; done) | rfl⟩
  · have hp := hp.1 h1
    refine rs_iload_n ri_283_13 rfl rfl ?_
    refine rs_iconst (v := (0 : Int32)) ri_283_14 rfl (by decide) ?_
    refine rs_iconst (v := (3 : Int32)) ri_283_15 rfl (by decide) ?_
    refine rs_stat (As := [.int v2, .int (0 : Int32), .int (3 : Int32)]) (r := []) ri_283_16 rfl rm_195.2.2.2 rfl rfl rfl (Nat.le_of_ble_eq_true rfl) (by decide) (by decide) (xs_195 (X := X) hL) ?_
    rintro _ _ ⟨e1, e2⟩
    rw [e1, e2]
    show ro_w X _ 283 _ 19 [(0, .ref 163), (1, .int v1), (2, .int v2), (3, .int v3)] [.int (ro_b (xf_195 (ro_sI M 163 51 (0 : Int32)) v2 (0 : Int32) (3 : Int32)))] (ro_sI M 163 51 (0 : Int32)) (0, 0)
    refine rs_ifne_c (t := 24) ri_283_19 rfl rfl (fun h2 => ?_) (fun h2 => ?_)
    · have hp := hp.1 h2
      refine rs_iload_n ri_283_24 rfl rfl ?_
      refine rs_if_ne (t := 37) ri_283_25 rfl rfl (fun h3 => ?_) (fun h3 => ?_)
      · have hp := hp.2 h3
        refine rs_iload_n ri_283_37 rfl rfl ?_
        refine rs_iconst (v := (1 : Int32)) ri_283_38 rfl (by decide) ?_
        refine rs_icmp_ne (t := 51) ri_283_39 rfl rfl (fun h4 => ?_) (fun h4 => ?_)
        · have hp := hp.2 h4
          refine rs_iload_n ri_283_51 rfl rfl ?_
          refine rs_iconst (v := (2 : Int32)) ri_283_52 rfl (by decide) ?_
          refine rs_icmp_ne (t := 65) ri_283_53 rfl rfl (fun h5 => ?_) (fun h5 => ?_)
          · have hp := hp.2 h5
            refine rs_aload_n ri_283_65 rfl rfl ?_
            refine rs_iload_n ri_283_66 rfl rfl ?_
            refine rs_iload_n ri_283_67 rfl rfl ?_
            obtain ⟨q5, hp⟩ := hp
            refine rs_virt (As := [.int v1, .int v3]) (r := []) ri_283_68 rfl (by decide) rm_296.2.2.2 rm_296.2.2.1 rfl rfl rfl (by decide) (ro_kf (kd_163 hL)) (Nat.le_of_ble_eq_true rfl) (by decide) (by decide) (xs_296 (X := X) hL q5) ?_
            rintro _ _ ⟨e1, e2⟩
            rw [e1, e2]
            show ro_w X _ 283 _ 71 [(0, .ref 163), (1, .int v1), (2, .int v2), (3, .int v3)] [.int (xf_296 (ro_sI M 163 51 (0 : Int32)) v1 v3)] (xm_296 (ro_sI M 163 51 (0 : Int32)) v1 v3) (0, 0)
            refine rs_iret ri_283_71 rm_283.2.1 (by decide) ?_
            exact ⟨by unfold xf_283; first | (simp only [if_pos h1, if_pos h2, if_neg h3, if_neg h4, if_neg h5]; done) | rfl, by unfold xm_283; first | (simp only [if_pos h1, if_pos h2, if_neg h3, if_neg h4, if_neg h5]; done) | rfl⟩
          · have hp := hp.1 h5
            refine rs_aload_n ri_283_56 rfl rfl ?_
            refine rs_iload_n ri_283_57 rfl rfl ?_
            refine rs_iload_n ri_283_58 rfl rfl ?_
            obtain ⟨q6, hp⟩ := hp
            refine rs_virt (As := [.int v1, .int v3]) (r := []) ri_283_59 rfl (by decide) rm_293.2.2.2 rm_293.2.2.1 rfl rfl rfl (by decide) (ro_kf (kd_163 hL)) (Nat.le_of_ble_eq_true rfl) (by decide) (by decide) (xs_293 (X := X) hL q6) ?_
            rintro _ _ ⟨e1, e2⟩
            rw [e1, e2]
            show ro_w X _ 283 _ 62 [(0, .ref 163), (1, .int v1), (2, .int v2), (3, .int v3)] [.int (xf_293 (ro_sI M 163 51 (0 : Int32)) v1 v3)] (xm_293 (ro_sI M 163 51 (0 : Int32)) v1 v3) (0, 0)
            refine rs_goto (t := 71) ri_283_62 rfl ?_
            refine rs_iret ri_283_71 rm_283.2.1 (by decide) ?_
            exact ⟨by unfold xf_283; first | (simp only [if_pos h1, if_pos h2, if_neg h3, if_neg h4, if_pos h5]; done) | rfl, by unfold xm_283; first | (simp only [if_pos h1, if_pos h2, if_neg h3, if_neg h4, if_pos h5]; done) | rfl⟩
        · have hp := hp.1 h4
          refine rs_aload_n ri_283_42 rfl rfl ?_
          refine rs_iload_n ri_283_43 rfl rfl ?_
          refine rs_iload_n ri_283_44 rfl rfl ?_
          obtain ⟨q7, hp⟩ := hp
          refine rs_virt (As := [.int v1, .int v3]) (r := []) ri_283_45 rfl (by decide) rm_290.2.2.2 rm_290.2.2.1 rfl rfl rfl (by decide) (ro_kf (kd_163 hL)) (Nat.le_of_ble_eq_true rfl) (by decide) (by decide) (xs_290 (X := X) hL q7) ?_
          rintro _ _ ⟨e1, e2⟩
          rw [e1, e2]
          show ro_w X _ 283 _ 48 [(0, .ref 163), (1, .int v1), (2, .int v2), (3, .int v3)] [.int (xf_290 (ro_sI M 163 51 (0 : Int32)) v1 v3)] (xm_290 (ro_sI M 163 51 (0 : Int32)) v1 v3) (0, 0)
          refine rs_goto (t := 71) ri_283_48 rfl ?_
          refine rs_iret ri_283_71 rm_283.2.1 (by decide) ?_
          exact ⟨by unfold xf_283; first | (simp only [if_pos h1, if_pos h2, if_neg h3, if_pos h4]; done) | rfl, by unfold xm_283; first | (simp only [if_pos h1, if_pos h2, if_neg h3, if_pos h4]; done) | rfl⟩
      · have hp := hp.1 h3
        refine rs_aload_n ri_283_28 rfl rfl ?_
        refine rs_iload_n ri_283_29 rfl rfl ?_
        refine rs_iload_n ri_283_30 rfl rfl ?_
        obtain ⟨q8, hp⟩ := hp
        refine rs_virt (As := [.int v1, .int v3]) (r := []) ri_283_31 rfl (by decide) rm_285.2.2.2 rm_285.2.2.1 rfl rfl rfl (by decide) (ro_kf (kd_163 hL)) (Nat.le_of_ble_eq_true rfl) (by decide) (by decide) (xs_285 (X := X) hL q8) ?_
        rintro _ _ ⟨e1, e2⟩
        rw [e1, e2]
        show ro_w X _ 283 _ 34 [(0, .ref 163), (1, .int v1), (2, .int v2), (3, .int v3)] [.int (xf_285 (ro_sI M 163 51 (0 : Int32)) v1 v3)] (xm_285 (ro_sI M 163 51 (0 : Int32)) v1 v3) (0, 0)
        refine rs_goto (t := 71) ri_283_34 rfl ?_
        refine rs_iret ri_283_71 rm_283.2.1 (by decide) ?_
        exact ⟨by unfold xf_283; first | (simp only [if_pos h1, if_pos h2, if_pos h3]; done) | rfl, by unfold xm_283; first | (simp only [if_pos h1, if_pos h2, if_pos h3]; done) | rfl⟩
    · have hp := hp.2 h2
      refine rs_iconst (v := (0 : Int32)) ri_283_22 rfl (by decide) ?_
      refine rs_iret ri_283_23 rm_283.2.1 (by decide) ?_
      exact ⟨by unfold xf_283; first | (simp only [if_pos h1, if_neg h2]; done) | rfl, by unfold xm_283; first | (simp only [if_pos h1, if_neg h2]; done) | rfl⟩
theorem xl_283 {M : ro_Mm} {v1 : Int32} {v2 : Int32} {v3 : Int32} (hL : ro_lay M) (hp : xp_283 M v1 v2 v3) : ro_lay (xm_283 M v1 v2 v3) := by
  unfold xp_283 at hp
  unfold xm_283
  by_cases hz : (xf_284 (ro_sI M 163 51 (0 : Int32)) v1)
  · have hp := hp.1 hz
    rw [if_pos hz]
    by_cases hz : (xf_195 (ro_sI M 163 51 (0 : Int32)) v2 (0 : Int32) (3 : Int32))
    · have hp := hp.1 hz
      rw [if_pos hz]
      by_cases hz : v2 = (0 : Int32)
      · have hp := hp.1 hz
        rw [if_pos hz]
        obtain ⟨q8, hp⟩ := hp
        exact (xl_285 hL q8)
      · have hp := hp.2 hz
        rw [if_neg hz]
        by_cases hz : v2 = (1 : Int32)
        · have hp := hp.1 hz
          rw [if_pos hz]
          obtain ⟨q7, hp⟩ := hp
          exact (xl_290 hL q7)
        · have hp := hp.2 hz
          rw [if_neg hz]
          by_cases hz : v2 = (2 : Int32)
          · have hp := hp.1 hz
            rw [if_pos hz]
            obtain ⟨q6, hp⟩ := hp
            exact (xl_293 hL q6)
          · have hp := hp.2 hz
            rw [if_neg hz]
            obtain ⟨q5, hp⟩ := hp
            exact (xl_296 hL q5)
    · have hp := hp.2 hz
      rw [if_neg hz]
      exact hL
  · have hp := hp.2 hz
    rw [if_neg hz]
    exact hL
theorem xwI_283 {M : ro_Mm} {v1 : Int32} {v2 : Int32} {v3 : Int32} {c j : Nat} (n0 : c ≠ 163) (n1 : c ≠ 189) : (xm_283 M v1 v2 v3).2.1 c j = M.2.1 c j := by
  unfold xm_283
  by_cases hz : (xf_284 (ro_sI M 163 51 (0 : Int32)) v1)
  · rw [if_pos hz]
    by_cases hz : (xf_195 (ro_sI M 163 51 (0 : Int32)) v2 (0 : Int32) (3 : Int32))
    · rw [if_pos hz]
      by_cases hz : v2 = (0 : Int32)
      · rw [if_pos hz]
        first | done | exact (((xwI_285 n0 n1)).trans (ro_sI_ne n0))
      · rw [if_neg hz]
        by_cases hz : v2 = (1 : Int32)
        · rw [if_pos hz]
          first | done | exact (((xwI_290 n0 n1)).trans (ro_sI_ne n0))
        · rw [if_neg hz]
          by_cases hz : v2 = (2 : Int32)
          · rw [if_pos hz]
            first | done | exact (((xwI_293 n0 n1)).trans (ro_sI_ne n0))
          · rw [if_neg hz]
            first | done | exact (((xwI_296 n0 n1)).trans (ro_sI_ne n0))
    · rw [if_neg hz]
      first | done | exact (ro_sI_ne n0)
  · rw [if_neg hz]
    first | done | exact (ro_sI_ne n0)
theorem xwJ_283 {M : ro_Mm} {v1 : Int32} {v2 : Int32} {v3 : Int32} {c j : Nat} : (xm_283 M v1 v2 v3).2.2.1 c j = M.2.2.1 c j := by
  unfold xm_283
  by_cases hz : (xf_284 (ro_sI M 163 51 (0 : Int32)) v1)
  · rw [if_pos hz]
    by_cases hz : (xf_195 (ro_sI M 163 51 (0 : Int32)) v2 (0 : Int32) (3 : Int32))
    · rw [if_pos hz]
      by_cases hz : v2 = (0 : Int32)
      · rw [if_pos hz]
        first | done | exact (xwJ_285)
      · rw [if_neg hz]
        by_cases hz : v2 = (1 : Int32)
        · rw [if_pos hz]
          first | done | exact (xwJ_290)
        · rw [if_neg hz]
          by_cases hz : v2 = (2 : Int32)
          · rw [if_pos hz]
            first | done | exact (xwJ_293)
          · rw [if_neg hz]
            first | done | exact (xwJ_296)
    · rw [if_neg hz]
      first | done | exact rfl
  · rw [if_neg hz]
    first | done | exact rfl
