/-! the ways behind an evening: rows of grids, the two levels (by program, wip/whole/walk4.py, mk91.py) -/
/-- a loop of RefusedOnce$Ways.endAt(ILRefusedOnce$Shelf;)Z -/
noncomputable def xg_122_2 : Nat → ro_Mm → Int32 → Int32 → Nat → Bool × Bool × Int32 × ro_Mm
  | 0, M, v3, v1, c2 => (false, false, v3, M)
  | n + 1, M, v3, v1, c2 => (if (12 : Int32) ≤ v3 then (false, false, v3, M) else (if (xf_29 M (ro_irem v3 (6 : Int32))) then (if (xf_24 M c2) ≤ (((2 : Int32) * (ro_irem v3 (6 : Int32))) + (v3 / (6 : Int32))) then (xg_122_2 n (xm_123 M v1 v3 (0 : Int32) (20 : Int32)) (v3 + (1 : Int32)) v1 c2) else (if (xf_25 M c2 (((2 : Int32) * (ro_irem v3 (6 : Int32))) + (v3 / (6 : Int32)))) < (0 : Int32) then (true, false, v3, M) else (if (xf_25 M c2 (((2 : Int32) * (ro_irem v3 (6 : Int32))) + (v3 / (6 : Int32)))) ≤ (20 : Int32) then (xg_122_2 n (xm_123 M v1 v3 (xf_25 M c2 (((2 : Int32) * (ro_irem v3 (6 : Int32))) + (v3 / (6 : Int32)))) (xf_25 M c2 (((2 : Int32) * (ro_irem v3 (6 : Int32))) + (v3 / (6 : Int32))))) (v3 + (1 : Int32)) v1 c2) else (true, false, v3, M)))) else (xg_122_2 n (xm_123 M v1 v3 (0 : Int32) (20 : Int32)) (v3 + (1 : Int32)) v1 c2)))
def xq_122_2 : Nat → ro_Mm → Int32 → Int32 → Nat → Prop
  | 0, _, _, _, _ => False
  | n + 1, M, v3, v1, c2 => (((12 : Int32) ≤ v3 → True) ∧ (¬ ((12 : Int32) ≤ v3) → (((xf_29 M (ro_irem v3 (6 : Int32))) → (((xf_24 M c2) ≤ (((2 : Int32) * (ro_irem v3 (6 : Int32))) + (v3 / (6 : Int32))) → (xq_122_2 n (xm_123 M v1 v3 (0 : Int32) (20 : Int32)) (v3 + (1 : Int32)) v1 c2)) ∧ (¬ ((xf_24 M c2) ≤ (((2 : Int32) * (ro_irem v3 (6 : Int32))) + (v3 / (6 : Int32)))) → (((xf_25 M c2 (((2 : Int32) * (ro_irem v3 (6 : Int32))) + (v3 / (6 : Int32)))) < (0 : Int32) → True) ∧ (¬ ((xf_25 M c2 (((2 : Int32) * (ro_irem v3 (6 : Int32))) + (v3 / (6 : Int32)))) < (0 : Int32)) → (((xf_25 M c2 (((2 : Int32) * (ro_irem v3 (6 : Int32))) + (v3 / (6 : Int32)))) ≤ (20 : Int32) → (xq_122_2 n (xm_123 M v1 v3 (xf_25 M c2 (((2 : Int32) * (ro_irem v3 (6 : Int32))) + (v3 / (6 : Int32)))) (xf_25 M c2 (((2 : Int32) * (ro_irem v3 (6 : Int32))) + (v3 / (6 : Int32))))) (v3 + (1 : Int32)) v1 c2)) ∧ (¬ ((xf_25 M c2 (((2 : Int32) * (ro_irem v3 (6 : Int32))) + (v3 / (6 : Int32)))) ≤ (20 : Int32)) → True))))))) ∧ (¬ ((xf_29 M (ro_irem v3 (6 : Int32)))) → (xq_122_2 n (xm_123 M v1 v3 (0 : Int32) (20 : Int32)) (v3 + (1 : Int32)) v1 c2)))))
set_option maxHeartbeats 2000000 in
theorem xt_122_2 {X : ro_Sx} {post : ro_Po} : ∀ (n : Nat) {M : ro_Mm} {v3 : Int32} {v1 : Int32} {c2 : Nat} (hL : ro_lw M) (hc2 : ro_is c2) (hp : xq_122_2 n M v3 v1 c2) (hk : ¬ (xg_122_2 n M v3 v1 c2).1 = true → ro_w X 2 122 post 118 [(3, .int (xg_122_2 n M v3 v1 c2).2.2.1), (0, .ref 62), (1, .int v1), (2, .ref c2)] [] (xg_122_2 n M v3 v1 c2).2.2.2 (0, 0)) (hr : (xg_122_2 n M v3 v1 c2).1 = true → post (some (.int (ro_b (xg_122_2 n M v3 v1 c2).2.1))) (xg_122_2 n M v3 v1 c2).2.2.2), ro_w X 2 122 post 2 [(3, .int v3), (0, .ref 62), (1, .int v1), (2, .ref c2)] [] M (0, 0) := by
  intro n
  induction n with
  | zero => intro M v3 v1 c2 hL hc2 hp hk hr; exact False.elim hp
  | succ n ih =>
    intro M v3 v1 c2 hL hc2 hp hk hr
    rw [xq_122_2] at hp
    refine rs_iload_n ri_122_2 rfl rfl ?_
    refine rs_bipush (v := (12 : Int32)) ri_122_3 rfl (by decide) ?_
    refine rs_icmp_ge (t := 118) ri_122_5 rfl rfl (fun h1 => ?_) (fun h1 => ?_)
    · skip
      have e : xg_122_2 (n + 1) M v3 v1 c2 = (false, false, v3, M) := by rw [xg_122_2]; first | (simp only [if_pos h1]; done) | rfl
      rw [e] at hk hr
      exact ro_w_lv (ro_sub_c rfl (ro_sub_c rfl (ro_sub_c rfl (ro_sub_c rfl (ro_sub_n rfl))))) (hk (fun z => Bool.noConfusion z))
    · have hp := hp.2 h1
      refine rs_iload_n ri_122_8 rfl rfl ?_
      refine rs_bipush (v := (6 : Int32)) ri_122_9 rfl (by decide) ?_
      refine rs_irem (r := (ro_irem v3 (6 : Int32))) ri_122_11 rfl (by decide) rfl ?_
      refine rs_istore (lv2 := [(4, .int (ro_irem v3 (6 : Int32))), (3, .int v3), (0, .ref 62), (1, .int v1), (2, .ref c2)]) ri_122_12 rfl rm_122.1 (by decide) rfl ?_
      refine rs_iconst (v := (2 : Int32)) ri_122_14 rfl (by decide) ?_
      refine rs_iload ri_122_15 rfl rfl ?_
      refine rs_imul (r := ((2 : Int32) * (ro_irem v3 (6 : Int32)))) ri_122_17 rfl rfl ?_
      refine rs_iload_n ri_122_18 rfl rfl ?_
      refine rs_bipush (v := (6 : Int32)) ri_122_19 rfl (by decide) ?_
      refine rs_idiv (r := (v3 / (6 : Int32))) ri_122_21 rfl (by decide) rfl ?_
      refine rs_iadd (r := (((2 : Int32) * (ro_irem v3 (6 : Int32))) + (v3 / (6 : Int32)))) ri_122_22 rfl rfl ?_
      refine rs_istore (lv2 := [(5, .int (((2 : Int32) * (ro_irem v3 (6 : Int32))) + (v3 / (6 : Int32)))), (4, .int (ro_irem v3 (6 : Int32))), (3, .int v3), (0, .ref 62), (1, .int v1), (2, .ref c2)]) ri_122_23 rfl rm_122.1 (by decide) rfl ?_
      refine rs_aload_n ri_122_25 rfl rfl ?_
      refine rs_gf (v := .ref 5) ri_122_26 rfl (by decide) (ro_kf (kd_62 hL.1)) rfl (rf_62_0 hL.1) ?_
      refine rs_iload ri_122_29 rfl rfl ?_
      refine rs_virt (As := [.int (ro_irem v3 (6 : Int32))]) (r := []) ri_122_31 rfl (by decide) rm_29.2.2.2 rm_29.2.2.1 rfl rfl rfl (by decide) (ro_kf (kd_5 hL.1)) (Nat.le_of_ble_eq_true rfl) (by decide) (by decide) (xs_29 (X := X) hL.1) ?_
      rintro _ _ ⟨e1, e2⟩
      rw [e1, e2]
      show ro_w X _ 122 _ 34 [(5, .int (((2 : Int32) * (ro_irem v3 (6 : Int32))) + (v3 / (6 : Int32)))), (4, .int (ro_irem v3 (6 : Int32))), (3, .int v3), (0, .ref 62), (1, .int v1), (2, .ref c2)] [.int (ro_b (xf_29 M (ro_irem v3 (6 : Int32))))] M (0, 0)
      refine rs_ifeq_c (t := 50) ri_122_34 rfl rfl (fun h2 => ?_) (fun h2 => ?_)
      · have hp := hp.2 h2
        refine rs_iconst (v := (0 : Int32)) ri_122_50 rfl (by decide) ?_
        refine rs_istore (lv2 := [(6, .int (0 : Int32)), (5, .int (((2 : Int32) * (ro_irem v3 (6 : Int32))) + (v3 / (6 : Int32)))), (4, .int (ro_irem v3 (6 : Int32))), (3, .int v3), (0, .ref 62), (1, .int v1), (2, .ref c2)]) ri_122_51 rfl rm_122.1 (by decide) rfl ?_
        refine rs_iload ri_122_53 rfl rfl ?_
        refine rs_if_eq (t := 67) ri_122_55 rfl rfl (fun h3 => ?_) (fun h3 => absurd (by decide) h3)
        refine rs_iconst (v := (0 : Int32)) ri_122_67 rfl (by decide) ?_
        refine rs_istore (lv2 := [(7, .int (0 : Int32)), (6, .int (0 : Int32)), (5, .int (((2 : Int32) * (ro_irem v3 (6 : Int32))) + (v3 / (6 : Int32)))), (4, .int (ro_irem v3 (6 : Int32))), (3, .int v3), (0, .ref 62), (1, .int v1), (2, .ref c2)]) ri_122_68 rfl rm_122.1 (by decide) rfl ?_
        refine rs_iload ri_122_70 rfl rfl ?_
        refine rs_if_eq (t := 84) ri_122_72 rfl rfl (fun h4 => ?_) (fun h4 => absurd (by decide) h4)
        refine rs_bipush (v := (20 : Int32)) ri_122_84 rfl (by decide) ?_
        refine rs_istore (lv2 := [(8, .int (20 : Int32)), (7, .int (0 : Int32)), (6, .int (0 : Int32)), (5, .int (((2 : Int32) * (ro_irem v3 (6 : Int32))) + (v3 / (6 : Int32)))), (4, .int (ro_irem v3 (6 : Int32))), (3, .int v3), (0, .ref 62), (1, .int v1), (2, .ref c2)]) ri_122_86 rfl rm_122.1 (by decide) rfl ?_
        refine rs_iload ri_122_88 rfl rfl ?_
        refine rs_if_lt (t := 100) ri_122_90 rfl rfl (fun h5 => absurd h5 (by decide)) (fun h5 => ?_)
        refine rs_iload ri_122_93 rfl rfl ?_
        refine rs_bipush (v := (20 : Int32)) ri_122_95 rfl (by decide) ?_
        refine rs_icmp_le (t := 102) ri_122_97 rfl rfl (fun h6 => ?_) (fun h6 => absurd (by decide) h6)
        refine rs_aload_n ri_122_102 rfl rfl ?_
        refine rs_iload_n ri_122_103 rfl rfl ?_
        refine rs_iload_n ri_122_104 rfl rfl ?_
        refine rs_iload ri_122_105 rfl rfl ?_
        refine rs_iload ri_122_107 rfl rfl ?_
        refine rs_virt (As := [.int v1, .int v3, .int (0 : Int32), .int (20 : Int32)]) (r := []) ri_122_109 rfl (by decide) rm_123.2.2.2 rm_123.2.2.1 rfl rfl rfl (by decide) (ro_kf (kd_62 hL.1)) (Nat.le_of_ble_eq_true rfl) (by decide) (by decide) (xs_123 (X := X) hL) ?_
        rintro _ _ ⟨e1, e2⟩
        rw [e1, e2]
        show ro_w X _ 122 _ 112 [(8, .int (20 : Int32)), (7, .int (0 : Int32)), (6, .int (0 : Int32)), (5, .int (((2 : Int32) * (ro_irem v3 (6 : Int32))) + (v3 / (6 : Int32)))), (4, .int (ro_irem v3 (6 : Int32))), (3, .int v3), (0, .ref 62), (1, .int v1), (2, .ref c2)] [] (xm_123 M v1 v3 (0 : Int32) (20 : Int32)) (0, 0)
        refine rs_iinc (v := (v3 + (1 : Int32))) (lv2 := [(3, .int (v3 + (1 : Int32))), (8, .int (20 : Int32)), (7, .int (0 : Int32)), (6, .int (0 : Int32)), (5, .int (((2 : Int32) * (ro_irem v3 (6 : Int32))) + (v3 / (6 : Int32)))), (4, .int (ro_irem v3 (6 : Int32))), (0, .ref 62), (1, .int v1), (2, .ref c2)]) ri_122_112 rfl rfl rfl rm_122.1 (by decide) rfl ?_
        refine rs_goto (t := 2) ri_122_115 rfl ?_
        have e : xg_122_2 (n + 1) M v3 v1 c2 = xg_122_2 n (xm_123 M v1 v3 (0 : Int32) (20 : Int32)) (v3 + (1 : Int32)) v1 c2 := by rw [xg_122_2]; first | (simp only [if_neg h1, if_neg h2]; done) | rfl
        rw [e] at hk hr
        exact ro_w_lv (ro_sub_c rfl (ro_sub_c rfl (ro_sub_c rfl (ro_sub_c rfl (ro_sub_n rfl))))) (ih (xl_123 hL) hc2 hp hk hr)
      · have hp := hp.1 h2
        refine rs_iload ri_122_37 rfl rfl ?_
        refine rs_aload_n ri_122_39 rfl rfl ?_
        refine rs_virt (As := []) (r := [.int (((2 : Int32) * (ro_irem v3 (6 : Int32))) + (v3 / (6 : Int32)))]) ri_122_40 rfl (by decide) rm_24.2.2.2 rm_24.2.2.1 rfl rfl rfl (ro_is4 hc2) (ro_kf (is_kd hL.1 hc2)) (Nat.le_of_ble_eq_true rfl) (by decide) (by decide) (xs_24 (X := X) hL.1 hc2) ?_
        rintro _ _ ⟨e1, e2⟩
        rw [e1, e2]
        show ro_w X _ 122 _ 43 [(5, .int (((2 : Int32) * (ro_irem v3 (6 : Int32))) + (v3 / (6 : Int32)))), (4, .int (ro_irem v3 (6 : Int32))), (3, .int v3), (0, .ref 62), (1, .int v1), (2, .ref c2)] [.int (xf_24 M c2), .int (((2 : Int32) * (ro_irem v3 (6 : Int32))) + (v3 / (6 : Int32)))] M (0, 0)
        refine rs_icmp_ge (t := 50) ri_122_43 rfl rfl (fun h7 => ?_) (fun h7 => ?_)
        · have hp := hp.1 h7
          refine rs_iconst (v := (0 : Int32)) ri_122_50 rfl (by decide) ?_
          refine rs_istore (lv2 := [(6, .int (0 : Int32)), (5, .int (((2 : Int32) * (ro_irem v3 (6 : Int32))) + (v3 / (6 : Int32)))), (4, .int (ro_irem v3 (6 : Int32))), (3, .int v3), (0, .ref 62), (1, .int v1), (2, .ref c2)]) ri_122_51 rfl rm_122.1 (by decide) rfl ?_
          refine rs_iload ri_122_53 rfl rfl ?_
          refine rs_if_eq (t := 67) ri_122_55 rfl rfl (fun h8 => ?_) (fun h8 => absurd (by decide) h8)
          refine rs_iconst (v := (0 : Int32)) ri_122_67 rfl (by decide) ?_
          refine rs_istore (lv2 := [(7, .int (0 : Int32)), (6, .int (0 : Int32)), (5, .int (((2 : Int32) * (ro_irem v3 (6 : Int32))) + (v3 / (6 : Int32)))), (4, .int (ro_irem v3 (6 : Int32))), (3, .int v3), (0, .ref 62), (1, .int v1), (2, .ref c2)]) ri_122_68 rfl rm_122.1 (by decide) rfl ?_
          refine rs_iload ri_122_70 rfl rfl ?_
          refine rs_if_eq (t := 84) ri_122_72 rfl rfl (fun h9 => ?_) (fun h9 => absurd (by decide) h9)
          refine rs_bipush (v := (20 : Int32)) ri_122_84 rfl (by decide) ?_
          refine rs_istore (lv2 := [(8, .int (20 : Int32)), (7, .int (0 : Int32)), (6, .int (0 : Int32)), (5, .int (((2 : Int32) * (ro_irem v3 (6 : Int32))) + (v3 / (6 : Int32)))), (4, .int (ro_irem v3 (6 : Int32))), (3, .int v3), (0, .ref 62), (1, .int v1), (2, .ref c2)]) ri_122_86 rfl rm_122.1 (by decide) rfl ?_
          refine rs_iload ri_122_88 rfl rfl ?_
          refine rs_if_lt (t := 100) ri_122_90 rfl rfl (fun h10 => absurd h10 (by decide)) (fun h10 => ?_)
          refine rs_iload ri_122_93 rfl rfl ?_
          refine rs_bipush (v := (20 : Int32)) ri_122_95 rfl (by decide) ?_
          refine rs_icmp_le (t := 102) ri_122_97 rfl rfl (fun h11 => ?_) (fun h11 => absurd (by decide) h11)
          refine rs_aload_n ri_122_102 rfl rfl ?_
          refine rs_iload_n ri_122_103 rfl rfl ?_
          refine rs_iload_n ri_122_104 rfl rfl ?_
          refine rs_iload ri_122_105 rfl rfl ?_
          refine rs_iload ri_122_107 rfl rfl ?_
          refine rs_virt (As := [.int v1, .int v3, .int (0 : Int32), .int (20 : Int32)]) (r := []) ri_122_109 rfl (by decide) rm_123.2.2.2 rm_123.2.2.1 rfl rfl rfl (by decide) (ro_kf (kd_62 hL.1)) (Nat.le_of_ble_eq_true rfl) (by decide) (by decide) (xs_123 (X := X) hL) ?_
          rintro _ _ ⟨e1, e2⟩
          rw [e1, e2]
          show ro_w X _ 122 _ 112 [(8, .int (20 : Int32)), (7, .int (0 : Int32)), (6, .int (0 : Int32)), (5, .int (((2 : Int32) * (ro_irem v3 (6 : Int32))) + (v3 / (6 : Int32)))), (4, .int (ro_irem v3 (6 : Int32))), (3, .int v3), (0, .ref 62), (1, .int v1), (2, .ref c2)] [] (xm_123 M v1 v3 (0 : Int32) (20 : Int32)) (0, 0)
          refine rs_iinc (v := (v3 + (1 : Int32))) (lv2 := [(3, .int (v3 + (1 : Int32))), (8, .int (20 : Int32)), (7, .int (0 : Int32)), (6, .int (0 : Int32)), (5, .int (((2 : Int32) * (ro_irem v3 (6 : Int32))) + (v3 / (6 : Int32)))), (4, .int (ro_irem v3 (6 : Int32))), (0, .ref 62), (1, .int v1), (2, .ref c2)]) ri_122_112 rfl rfl rfl rm_122.1 (by decide) rfl ?_
          refine rs_goto (t := 2) ri_122_115 rfl ?_
          have e : xg_122_2 (n + 1) M v3 v1 c2 = xg_122_2 n (xm_123 M v1 v3 (0 : Int32) (20 : Int32)) (v3 + (1 : Int32)) v1 c2 := by rw [xg_122_2]; first | (simp only [if_neg h1, if_pos h2, if_pos h7]; done) | rfl
          rw [e] at hk hr
          exact ro_w_lv (ro_sub_c rfl (ro_sub_c rfl (ro_sub_c rfl (ro_sub_c rfl (ro_sub_n rfl))))) (ih (xl_123 hL) hc2 hp hk hr)
        · have hp := hp.2 h7
          refine rs_iconst (v := (1 : Int32)) ri_122_46 rfl (by decide) ?_
          refine rs_goto (t := 51) ri_122_47 rfl ?_
          refine rs_istore (lv2 := [(6, .int (1 : Int32)), (5, .int (((2 : Int32) * (ro_irem v3 (6 : Int32))) + (v3 / (6 : Int32)))), (4, .int (ro_irem v3 (6 : Int32))), (3, .int v3), (0, .ref 62), (1, .int v1), (2, .ref c2)]) ri_122_51 rfl rm_122.1 (by decide) rfl ?_
          refine rs_iload ri_122_53 rfl rfl ?_
          refine rs_if_eq (t := 67) ri_122_55 rfl rfl (fun h12 => absurd h12 (by decide)) (fun h12 => ?_)
          refine rs_aload_n ri_122_58 rfl rfl ?_
          refine rs_iload ri_122_59 rfl rfl ?_
          refine rs_virt (As := [.int (((2 : Int32) * (ro_irem v3 (6 : Int32))) + (v3 / (6 : Int32)))]) (r := []) ri_122_61 rfl (by decide) rm_25.2.2.2 rm_25.2.2.1 rfl rfl rfl (ro_is4 hc2) (ro_kf (is_kd hL.1 hc2)) (Nat.le_of_ble_eq_true rfl) (by decide) (by decide) (xs_25 (X := X) hL.1 hc2) ?_
          rintro _ _ ⟨e1, e2⟩
          rw [e1, e2]
          show ro_w X _ 122 _ 64 [(6, .int (1 : Int32)), (5, .int (((2 : Int32) * (ro_irem v3 (6 : Int32))) + (v3 / (6 : Int32)))), (4, .int (ro_irem v3 (6 : Int32))), (3, .int v3), (0, .ref 62), (1, .int v1), (2, .ref c2)] [.int (xf_25 M c2 (((2 : Int32) * (ro_irem v3 (6 : Int32))) + (v3 / (6 : Int32))))] M (0, 0)
          refine rs_goto (t := 68) ri_122_64 rfl ?_
          refine rs_istore (lv2 := [(7, .int (xf_25 M c2 (((2 : Int32) * (ro_irem v3 (6 : Int32))) + (v3 / (6 : Int32))))), (6, .int (1 : Int32)), (5, .int (((2 : Int32) * (ro_irem v3 (6 : Int32))) + (v3 / (6 : Int32)))), (4, .int (ro_irem v3 (6 : Int32))), (3, .int v3), (0, .ref 62), (1, .int v1), (2, .ref c2)]) ri_122_68 rfl rm_122.1 (by decide) rfl ?_
          refine rs_iload ri_122_70 rfl rfl ?_
          refine rs_if_eq (t := 84) ri_122_72 rfl rfl (fun h13 => absurd h13 (by decide)) (fun h13 => ?_)
          refine rs_aload_n ri_122_75 rfl rfl ?_
          refine rs_iload ri_122_76 rfl rfl ?_
          refine rs_virt (As := [.int (((2 : Int32) * (ro_irem v3 (6 : Int32))) + (v3 / (6 : Int32)))]) (r := []) ri_122_78 rfl (by decide) rm_25.2.2.2 rm_25.2.2.1 rfl rfl rfl (ro_is4 hc2) (ro_kf (is_kd hL.1 hc2)) (Nat.le_of_ble_eq_true rfl) (by decide) (by decide) (xs_25 (X := X) hL.1 hc2) ?_
          rintro _ _ ⟨e1, e2⟩
          rw [e1, e2]
          show ro_w X _ 122 _ 81 [(7, .int (xf_25 M c2 (((2 : Int32) * (ro_irem v3 (6 : Int32))) + (v3 / (6 : Int32))))), (6, .int (1 : Int32)), (5, .int (((2 : Int32) * (ro_irem v3 (6 : Int32))) + (v3 / (6 : Int32)))), (4, .int (ro_irem v3 (6 : Int32))), (3, .int v3), (0, .ref 62), (1, .int v1), (2, .ref c2)] [.int (xf_25 M c2 (((2 : Int32) * (ro_irem v3 (6 : Int32))) + (v3 / (6 : Int32))))] M (0, 0)
          refine rs_goto (t := 86) ri_122_81 rfl ?_
          refine rs_istore (lv2 := [(8, .int (xf_25 M c2 (((2 : Int32) * (ro_irem v3 (6 : Int32))) + (v3 / (6 : Int32))))), (7, .int (xf_25 M c2 (((2 : Int32) * (ro_irem v3 (6 : Int32))) + (v3 / (6 : Int32))))), (6, .int (1 : Int32)), (5, .int (((2 : Int32) * (ro_irem v3 (6 : Int32))) + (v3 / (6 : Int32)))), (4, .int (ro_irem v3 (6 : Int32))), (3, .int v3), (0, .ref 62), (1, .int v1), (2, .ref c2)]) ri_122_86 rfl rm_122.1 (by decide) rfl ?_
          refine rs_iload ri_122_88 rfl rfl ?_
          refine rs_if_lt (t := 100) ri_122_90 rfl rfl (fun h14 => ?_) (fun h14 => ?_)
          · skip
            refine rs_iconst (v := (0 : Int32)) ri_122_100 rfl (by decide) ?_
            refine rs_zret (p := false) ri_122_101 rm_122.2.1 (by decide) rfl ?_
            have e : xg_122_2 (n + 1) M v3 v1 c2 = (true, false, v3, M) := by rw [xg_122_2]; first | (simp only [if_neg h1, if_pos h2, if_neg h7, if_pos h14]; done) | rfl
            rw [e] at hk hr
            exact hr rfl
          · have hp := hp.2 h14
            refine rs_iload ri_122_93 rfl rfl ?_
            refine rs_bipush (v := (20 : Int32)) ri_122_95 rfl (by decide) ?_
            refine rs_icmp_le (t := 102) ri_122_97 rfl rfl (fun h15 => ?_) (fun h15 => ?_)
            · have hp := hp.1 h15
              refine rs_aload_n ri_122_102 rfl rfl ?_
              refine rs_iload_n ri_122_103 rfl rfl ?_
              refine rs_iload_n ri_122_104 rfl rfl ?_
              refine rs_iload ri_122_105 rfl rfl ?_
              refine rs_iload ri_122_107 rfl rfl ?_
              refine rs_virt (As := [.int v1, .int v3, .int (xf_25 M c2 (((2 : Int32) * (ro_irem v3 (6 : Int32))) + (v3 / (6 : Int32)))), .int (xf_25 M c2 (((2 : Int32) * (ro_irem v3 (6 : Int32))) + (v3 / (6 : Int32))))]) (r := []) ri_122_109 rfl (by decide) rm_123.2.2.2 rm_123.2.2.1 rfl rfl rfl (by decide) (ro_kf (kd_62 hL.1)) (Nat.le_of_ble_eq_true rfl) (by decide) (by decide) (xs_123 (X := X) hL) ?_
              rintro _ _ ⟨e1, e2⟩
              rw [e1, e2]
              show ro_w X _ 122 _ 112 [(8, .int (xf_25 M c2 (((2 : Int32) * (ro_irem v3 (6 : Int32))) + (v3 / (6 : Int32))))), (7, .int (xf_25 M c2 (((2 : Int32) * (ro_irem v3 (6 : Int32))) + (v3 / (6 : Int32))))), (6, .int (1 : Int32)), (5, .int (((2 : Int32) * (ro_irem v3 (6 : Int32))) + (v3 / (6 : Int32)))), (4, .int (ro_irem v3 (6 : Int32))), (3, .int v3), (0, .ref 62), (1, .int v1), (2, .ref c2)] [] (xm_123 M v1 v3 (xf_25 M c2 (((2 : Int32) * (ro_irem v3 (6 : Int32))) + (v3 / (6 : Int32)))) (xf_25 M c2 (((2 : Int32) * (ro_irem v3 (6 : Int32))) + (v3 / (6 : Int32))))) (0, 0)
              refine rs_iinc (v := (v3 + (1 : Int32))) (lv2 := [(3, .int (v3 + (1 : Int32))), (8, .int (xf_25 M c2 (((2 : Int32) * (ro_irem v3 (6 : Int32))) + (v3 / (6 : Int32))))), (7, .int (xf_25 M c2 (((2 : Int32) * (ro_irem v3 (6 : Int32))) + (v3 / (6 : Int32))))), (6, .int (1 : Int32)), (5, .int (((2 : Int32) * (ro_irem v3 (6 : Int32))) + (v3 / (6 : Int32)))), (4, .int (ro_irem v3 (6 : Int32))), (0, .ref 62), (1, .int v1), (2, .ref c2)]) ri_122_112 rfl rfl rfl rm_122.1 (by decide) rfl ?_
              refine rs_goto (t := 2) ri_122_115 rfl ?_
              have e : xg_122_2 (n + 1) M v3 v1 c2 = xg_122_2 n (xm_123 M v1 v3 (xf_25 M c2 (((2 : Int32) * (ro_irem v3 (6 : Int32))) + (v3 / (6 : Int32)))) (xf_25 M c2 (((2 : Int32) * (ro_irem v3 (6 : Int32))) + (v3 / (6 : Int32))))) (v3 + (1 : Int32)) v1 c2 := by rw [xg_122_2]; first | (simp only [if_neg h1, if_pos h2, if_neg h7, if_neg h14, if_pos h15]; done) | rfl
              rw [e] at hk hr
              exact ro_w_lv (ro_sub_c rfl (ro_sub_c rfl (ro_sub_c rfl (ro_sub_c rfl (ro_sub_n rfl))))) (ih (xl_123 hL) hc2 hp hk hr)
            · skip
              refine rs_iconst (v := (0 : Int32)) ri_122_100 rfl (by decide) ?_
              refine rs_zret (p := false) ri_122_101 rm_122.2.1 (by decide) rfl ?_
              have e : xg_122_2 (n + 1) M v3 v1 c2 = (true, false, v3, M) := by rw [xg_122_2]; first | (simp only [if_neg h1, if_pos h2, if_neg h7, if_neg h14, if_neg h15]; done) | rfl
              rw [e] at hk hr
              exact hr rfl
set_option maxHeartbeats 2000000 in
theorem xl_122_2 : ∀ (n : Nat) {M : ro_Mm} {v3 : Int32} {v1 : Int32} {c2 : Nat} (hL : ro_lw M) (hc2 : ro_is c2) (hp : xq_122_2 n M v3 v1 c2), ro_lw (xg_122_2 n M v3 v1 c2).2.2.2 := by
  intro n
  induction n with
  | zero => intro M v3 v1 c2 hL hc2 hp; exact False.elim hp
  | succ n ih =>
    intro M v3 v1 c2 hL hc2 hp
    rw [xq_122_2] at hp
    rw [xg_122_2]
    by_cases h1 : (12 : Int32) ≤ v3
    · have hp := hp.1 h1
      rw [if_pos h1]
      exact hL
    · have hp := hp.2 h1
      rw [if_neg h1]
      by_cases h2 : (xf_29 M (ro_irem v3 (6 : Int32)))
      · have hp := hp.1 h2
        rw [if_pos h2]
        by_cases h7 : (xf_24 M c2) ≤ (((2 : Int32) * (ro_irem v3 (6 : Int32))) + (v3 / (6 : Int32)))
        · have hp := hp.1 h7
          rw [if_pos h7]
          exact ih (xl_123 hL) hc2 hp
        · have hp := hp.2 h7
          rw [if_neg h7]
          by_cases h14 : (xf_25 M c2 (((2 : Int32) * (ro_irem v3 (6 : Int32))) + (v3 / (6 : Int32)))) < (0 : Int32)
          · have hp := hp.1 h14
            rw [if_pos h14]
            exact hL
          · have hp := hp.2 h14
            rw [if_neg h14]
            by_cases h15 : (xf_25 M c2 (((2 : Int32) * (ro_irem v3 (6 : Int32))) + (v3 / (6 : Int32)))) ≤ (20 : Int32)
            · have hp := hp.1 h15
              rw [if_pos h15]
              exact ih (xl_123 hL) hc2 hp
            · have hp := hp.2 h15
              rw [if_neg h15]
              exact hL
      · have hp := hp.2 h2
        rw [if_neg h2]
        exact ih (xl_123 hL) hc2 hp
/-- RefusedOnce$Ways.endAt(ILRefusedOnce$Shelf;)Z -/
noncomputable def xf_122 (M : ro_Mm) (v1 : Int32) (c2 : Nat) : Bool := (if (xg_122_2 lp_N M (0 : Int32) v1 c2).1 = true then (xg_122_2 lp_N M (0 : Int32) v1 c2).2.1 else true)
noncomputable def xm_122 (M : ro_Mm) (v1 : Int32) (c2 : Nat) : ro_Mm := (xg_122_2 lp_N M (0 : Int32) v1 c2).2.2.2
def xp_122 (M : ro_Mm) (v1 : Int32) (c2 : Nat) : Prop := (xq_122_2 lp_N M (0 : Int32) v1 c2 ∧ True)
set_option maxHeartbeats 2000000 in
theorem xs_122 {X : ro_Sx} {M : ro_Mm} {v1 : Int32} {c2 : Nat} (hL : ro_lw M) (hc2 : ro_is c2) (hp : xp_122 M v1 c2) : ro_cwp X 3 122 [.ref 62, .int v1, .ref c2] M (fun v M2 => v = some (.int (ro_b (xf_122 M v1 c2))) ∧ M2 = xm_122 M v1 c2) := by
  refine rs_begin (lv0 := [(0, .ref 62), (1, .int v1), (2, .ref c2)]) (by decide) rfl (by rw [rm_122.1]; exact Nat.le_of_ble_eq_true rfl) rfl ?_
  unfold xp_122 at hp
  refine rs_iconst (v := (0 : Int32)) ri_122_0 rfl (by decide) ?_
  refine rs_istore_n (lv2 := [(3, .int (0 : Int32)), (0, .ref 62), (1, .int v1), (2, .ref c2)]) ri_122_1 rfl rm_122.1 (by decide) rfl ?_
  obtain ⟨q15, hp⟩ := hp
  refine xt_122_2 lp_N hL hc2 q15 (fun h17 => ?_) (fun h17 => ?_)
  · skip
    refine rs_iconst (v := (1 : Int32)) ri_122_118 rfl (by decide) ?_
    refine rs_zret (p := true) ri_122_119 rm_122.2.1 (by decide) rfl ?_
    exact ⟨by unfold xf_122; first | (simp only [if_neg h17]; done) | rfl, by unfold xm_122; first | (simp only [if_neg h17]; done) | rfl⟩
  · skip
    exact ⟨by unfold xf_122; first | (simp only [if_pos h17]; done) | rfl, by unfold xm_122; first | (simp only [if_pos h17]; done) | rfl⟩
set_option maxHeartbeats 2000000 in
theorem xl_122 {M : ro_Mm} {v1 : Int32} {c2 : Nat} (hL : ro_lw M) (hc2 : ro_is c2) (hp : xp_122 M v1 c2) : ro_lw (xm_122 M v1 c2) := by
  unfold xp_122 at hp
  unfold xm_122
  obtain ⟨q15, hp⟩ := hp
  by_cases hz : (xg_122_2 lp_N M (0 : Int32) v1 c2).1 = true
  · skip
    exact (xl_122_2 lp_N hL hc2 q15)
  · skip
    exact (xl_122_2 lp_N hL hc2 q15)
/-- RefusedOnce$Ways.howMany()I -/
def xf_136 (M : ro_Mm) : Int32 := (if (M.2.1 (lft M) 4) ≤ (0 : Int32) then (0 : Int32) else (M.2.1 ((lft M) + 2) 0))
theorem xs_136 {X : ro_Sx} {M : ro_Mm} (hL : ro_lw M) : ro_cwp X 1 136 [.ref 62] M (fun v M2 => v = some (.int (xf_136 M)) ∧ M2 = M) := by
  refine rs_begin (lv0 := [(0, .ref 62)]) (by decide) rfl (by rw [rm_136.1]; exact Nat.le_of_ble_eq_true rfl) rfl ?_
  refine rs_aload_n ri_136_0 rfl rfl ?_
  refine rs_gf (v := .ref (lft M)) ri_136_1 rfl (by decide) (ro_kf (kd_62 hL.1)) rfl (gf_lv8 (lft_r hL)) ?_
  refine rs_gf (v := .int (M.2.1 (lft M) 4)) ri_136_4 rfl (ro_il4 (lft_il hL)) (ro_kf (il_kd hL.1 (lft_il hL))) rfl rfl ?_
  refine rs_if_le (t := 22) ri_136_7 rfl rfl (fun h1 => ?_) (fun h1 => ?_)
  · skip
    refine rs_iconst (v := (0 : Int32)) ri_136_22 rfl (by decide) ?_
    refine rs_iret ri_136_23 rm_136.2.1 (by decide) ?_
    exact ⟨by unfold xf_136; first | (simp only [if_pos h1]; done) | rfl, by rfl⟩
  · skip
    refine rs_aload_n ri_136_10 rfl rfl ?_
    refine rs_gf (v := .ref (lft M)) ri_136_11 rfl (by decide) (ro_kf (kd_62 hL.1)) rfl (gf_lv8 (lft_r hL)) ?_
    refine rs_gf (v := .ref ((lft M) + 2)) ri_136_14 rfl (ro_il4 (lft_il hL)) (ro_kf (il_kd hL.1 (lft_il hL))) rfl (il_r1 hL.1 (lft_il hL)) ?_
    refine rs_iconst (v := (0 : Int32)) ri_136_17 rfl (by decide) ?_
    refine rs_iald (v := (M.2.1 ((lft M) + 2) 0)) ri_136_18 rfl (il4o (lft_il hL)) (il_kd2 hL.1 (lft_il hL)) (vp_in_iff.mpr ⟨by decide, by decide⟩) rfl ?_
    refine rs_goto (t := 23) ri_136_19 rfl ?_
    refine rs_iret ri_136_23 rm_136.2.1 (by decide) ?_
    exact ⟨by unfold xf_136; first | (simp only [if_neg h1]; done) | rfl, by rfl⟩
/-- RefusedOnce$Ways.certain()I -/
def xf_137 (M : ro_Mm) : Int32 := (if (M.2.1 (lft M) 4) ≤ (0 : Int32) then (0 : Int32) else (M.2.1 ((lft M) + 4) 0))
theorem xs_137 {X : ro_Sx} {M : ro_Mm} (hL : ro_lw M) : ro_cwp X 1 137 [.ref 62] M (fun v M2 => v = some (.int (xf_137 M)) ∧ M2 = M) := by
  refine rs_begin (lv0 := [(0, .ref 62)]) (by decide) rfl (by rw [rm_137.1]; exact Nat.le_of_ble_eq_true rfl) rfl ?_
  refine rs_aload_n ri_137_0 rfl rfl ?_
  refine rs_gf (v := .ref (lft M)) ri_137_1 rfl (by decide) (ro_kf (kd_62 hL.1)) rfl (gf_lv8 (lft_r hL)) ?_
  refine rs_gf (v := .int (M.2.1 (lft M) 4)) ri_137_4 rfl (ro_il4 (lft_il hL)) (ro_kf (il_kd hL.1 (lft_il hL))) rfl rfl ?_
  refine rs_if_le (t := 22) ri_137_7 rfl rfl (fun h1 => ?_) (fun h1 => ?_)
  · skip
    refine rs_iconst (v := (0 : Int32)) ri_137_22 rfl (by decide) ?_
    refine rs_iret ri_137_23 rm_137.2.1 (by decide) ?_
    exact ⟨by unfold xf_137; first | (simp only [if_pos h1]; done) | rfl, by rfl⟩
  · skip
    refine rs_aload_n ri_137_10 rfl rfl ?_
    refine rs_gf (v := .ref (lft M)) ri_137_11 rfl (by decide) (ro_kf (kd_62 hL.1)) rfl (gf_lv8 (lft_r hL)) ?_
    refine rs_gf (v := .ref ((lft M) + 4)) ri_137_14 rfl (ro_il4 (lft_il hL)) (ro_kf (il_kd hL.1 (lft_il hL))) rfl (il_r3 hL.1 (lft_il hL)) ?_
    refine rs_iconst (v := (0 : Int32)) ri_137_17 rfl (by decide) ?_
    refine rs_iald (v := (M.2.1 ((lft M) + 4) 0)) ri_137_18 rfl (il4o (lft_il hL)) (il_kd4 hL.1 (lft_il hL)) (vp_in_iff.mpr ⟨by decide, by decide⟩) rfl ?_
    refine rs_goto (t := 23) ri_137_19 rfl ?_
    refine rs_iret ri_137_23 rm_137.2.1 (by decide) ?_
    exact ⟨by unfold xf_137; first | (simp only [if_neg h1]; done) | rfl, by rfl⟩
/-- RefusedOnce$Ways.fewest()I -/
def xf_138 (M : ro_Mm) : Int32 := (if (M.2.1 (lft M) 4) ≤ (0 : Int32) then (0 : Int32) else ((M.2.1 ((lft M) + 3) 0) >>> ((20 : Int32) &&& 31)))
theorem xs_138 {X : ro_Sx} {M : ro_Mm} (hL : ro_lw M) : ro_cwp X 1 138 [.ref 62] M (fun v M2 => v = some (.int (xf_138 M)) ∧ M2 = M) := by
  refine rs_begin (lv0 := [(0, .ref 62)]) (by decide) rfl (by rw [rm_138.1]; exact Nat.le_of_ble_eq_true rfl) rfl ?_
  refine rs_aload_n ri_138_0 rfl rfl ?_
  refine rs_gf (v := .ref (lft M)) ri_138_1 rfl (by decide) (ro_kf (kd_62 hL.1)) rfl (gf_lv8 (lft_r hL)) ?_
  refine rs_gf (v := .int (M.2.1 (lft M) 4)) ri_138_4 rfl (ro_il4 (lft_il hL)) (ro_kf (il_kd hL.1 (lft_il hL))) rfl rfl ?_
  refine rs_if_le (t := 25) ri_138_7 rfl rfl (fun h1 => ?_) (fun h1 => ?_)
  · skip
    refine rs_iconst (v := (0 : Int32)) ri_138_25 rfl (by decide) ?_
    refine rs_iret ri_138_26 rm_138.2.1 (by decide) ?_
    exact ⟨by unfold xf_138; first | (simp only [if_pos h1]; done) | rfl, by rfl⟩
  · skip
    refine rs_aload_n ri_138_10 rfl rfl ?_
    refine rs_gf (v := .ref (lft M)) ri_138_11 rfl (by decide) (ro_kf (kd_62 hL.1)) rfl (gf_lv8 (lft_r hL)) ?_
    refine rs_gf (v := .ref ((lft M) + 3)) ri_138_14 rfl (ro_il4 (lft_il hL)) (ro_kf (il_kd hL.1 (lft_il hL))) rfl (il_r2 hL.1 (lft_il hL)) ?_
    refine rs_iconst (v := (0 : Int32)) ri_138_17 rfl (by decide) ?_
    refine rs_iald (v := (M.2.1 ((lft M) + 3) 0)) ri_138_18 rfl (il4o (lft_il hL)) (il_kd3 hL.1 (lft_il hL)) (vp_in_iff.mpr ⟨by decide, by decide⟩) rfl ?_
    refine rs_bipush (v := (20 : Int32)) ri_138_19 rfl (by decide) ?_
    refine rs_ishr (r := ((M.2.1 ((lft M) + 3) 0) >>> ((20 : Int32) &&& 31))) ri_138_21 rfl rfl ?_
    refine rs_goto (t := 26) ri_138_22 rfl ?_
    refine rs_iret ri_138_26 rm_138.2.1 (by decide) ?_
    exact ⟨by unfold xf_138; first | (simp only [if_neg h1]; done) | rfl, by rfl⟩
/-- RefusedOnce$Ways.fewestBits()I -/
def xf_139 (M : ro_Mm) : Int32 := (if (M.2.1 (lft M) 4) ≤ (0 : Int32) then (0 : Int32) else ((M.2.1 ((lft M) + 3) 0) &&& (1048575 : Int32)))
theorem xs_139 {X : ro_Sx} {M : ro_Mm} (hL : ro_lw M) : ro_cwp X 1 139 [.ref 62] M (fun v M2 => v = some (.int (xf_139 M)) ∧ M2 = M) := by
  refine rs_begin (lv0 := [(0, .ref 62)]) (by decide) rfl (by rw [rm_139.1]; exact Nat.le_of_ble_eq_true rfl) rfl ?_
  refine rs_aload_n ri_139_0 rfl rfl ?_
  refine rs_gf (v := .ref (lft M)) ri_139_1 rfl (by decide) (ro_kf (kd_62 hL.1)) rfl (gf_lv8 (lft_r hL)) ?_
  refine rs_gf (v := .int (M.2.1 (lft M) 4)) ri_139_4 rfl (ro_il4 (lft_il hL)) (ro_kf (il_kd hL.1 (lft_il hL))) rfl rfl ?_
  refine rs_if_le (t := 25) ri_139_7 rfl rfl (fun h1 => ?_) (fun h1 => ?_)
  · skip
    refine rs_iconst (v := (0 : Int32)) ri_139_25 rfl (by decide) ?_
    refine rs_iret ri_139_26 rm_139.2.1 (by decide) ?_
    exact ⟨by unfold xf_139; first | (simp only [if_pos h1]; done) | rfl, by rfl⟩
  · skip
    refine rs_aload_n ri_139_10 rfl rfl ?_
    refine rs_gf (v := .ref (lft M)) ri_139_11 rfl (by decide) (ro_kf (kd_62 hL.1)) rfl (gf_lv8 (lft_r hL)) ?_
    refine rs_gf (v := .ref ((lft M) + 3)) ri_139_14 rfl (ro_il4 (lft_il hL)) (ro_kf (il_kd hL.1 (lft_il hL))) rfl (il_r2 hL.1 (lft_il hL)) ?_
    refine rs_iconst (v := (0 : Int32)) ri_139_17 rfl (by decide) ?_
    refine rs_iald (v := (M.2.1 ((lft M) + 3) 0)) ri_139_18 rfl (il4o (lft_il hL)) (il_kd3 hL.1 (lft_il hL)) (vp_in_iff.mpr ⟨by decide, by decide⟩) rfl ?_
    refine rs_ldc (v := (1048575 : Int32)) ri_139_19 rfl rfl (by decide) ?_
    refine rs_iand (r := ((M.2.1 ((lft M) + 3) 0) &&& (1048575 : Int32))) ri_139_21 rfl rfl ?_
    refine rs_goto (t := 26) ri_139_22 rfl ?_
    refine rs_iret ri_139_26 rm_139.2.1 (by decide) ?_
    exact ⟨by unfold xf_139; first | (simp only [if_neg h1]; done) | rfl, by rfl⟩

