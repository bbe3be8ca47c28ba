/-! methods with loops, by program (wip/whole/walk2.py, mk28.py 73 85) -/
/-- a loop of RefusedOnceModel.drawn(III)I -/
noncomputable def xg_273_76 : Nat → ro_Mm → Int32 → Int32 → Int32 → Int32 → Int32 → Int32 → Int32 → Int32 → Int32 × Int32 × Int32 × ro_Mm
  | 0, M, v8, v7, v6, v5, v4, v1, v2, v3 => (v8, v6, v4, M)
  | n + 1, M, v8, v7, v6, v5, v4, v1, v2, v3 => (if (ro_irem v2 (100 : Int32)) ≤ v8 then (v8, v6, v4, M) else (if (ro_irem (ro_ushr ((v4 * (1103515245 : Int32)) + (12345 : Int32)) (8 : Int32)) (M.2.1 163 1)) = (ro_irem (ro_ushr ((v4 * (1103515245 : Int32)) + (12345 : Int32)) (12 : Int32)) (M.2.1 163 1)) then (xg_273_76 n M (v8 + (1 : Int32)) v7 v6 v5 ((v4 * (1103515245 : Int32)) + (12345 : Int32)) v1 v2 v3) else (if (xf_241 M (ro_irem (ro_ushr ((v4 * (1103515245 : Int32)) + (12345 : Int32)) (8 : Int32)) (M.2.1 163 1)) (ro_irem (ro_ushr ((v4 * (1103515245 : Int32)) + (12345 : Int32)) (12 : Int32)) (M.2.1 163 1))) then (if (xf_229 M (ro_irem (ro_ushr ((v4 * (1103515245 : Int32)) + (12345 : Int32)) (8 : Int32)) (M.2.1 163 1)) (ro_irem (ro_ushr ((v4 * (1103515245 : Int32)) + (12345 : Int32)) (12 : Int32)) (M.2.1 163 1))) ≤ (ro_irem (ro_ushr ((v4 * (1103515245 : Int32)) + (12345 : Int32)) (20 : Int32)) (12 : Int32)) then (xg_273_76 n (xm_245 (xm_229 M (ro_irem (ro_ushr ((v4 * (1103515245 : Int32)) + (12345 : Int32)) (8 : Int32)) (M.2.1 163 1)) (ro_irem (ro_ushr ((v4 * (1103515245 : Int32)) + (12345 : Int32)) (12 : Int32)) (M.2.1 163 1))) (ro_irem (ro_ushr ((v4 * (1103515245 : Int32)) + (12345 : Int32)) (8 : Int32)) (M.2.1 163 1)) (ro_irem (ro_ushr ((v4 * (1103515245 : Int32)) + (12345 : Int32)) (12 : Int32)) (M.2.1 163 1))) (v8 + (1 : Int32)) v7 v6 v5 ((v4 * (1103515245 : Int32)) + (12345 : Int32)) v1 v2 v3) else (xg_273_76 n (xm_244 (xm_229 M (ro_irem (ro_ushr ((v4 * (1103515245 : Int32)) + (12345 : Int32)) (8 : Int32)) (M.2.1 163 1)) (ro_irem (ro_ushr ((v4 * (1103515245 : Int32)) + (12345 : Int32)) (12 : Int32)) (M.2.1 163 1))) (ro_irem (ro_ushr ((v4 * (1103515245 : Int32)) + (12345 : Int32)) (8 : Int32)) (M.2.1 163 1))) (v8 + (1 : Int32)) v7 (v6 + (1 : Int32)) v5 ((v4 * (1103515245 : Int32)) + (12345 : Int32)) v1 v2 v3)) else (xg_273_76 n M (v8 + (1 : Int32)) v7 v6 v5 ((v4 * (1103515245 : Int32)) + (12345 : Int32)) v1 v2 v3))))
def xq_273_76 : Nat → ro_Mm → Int32 → Int32 → Int32 → Int32 → Int32 → Int32 → Int32 → Int32 → Prop
  | 0, _, _, _, _, _, _, _, _, _ => False
  | n + 1, M, v8, v7, v6, v5, v4, v1, v2, v3 => (((ro_irem v2 (100 : Int32)) ≤ v8 → True) ∧ (¬ ((ro_irem v2 (100 : Int32)) ≤ v8) → (¬ (M.2.1 163 1) = 0 ∧ (¬ (M.2.1 163 1) = 0 ∧ (((ro_irem (ro_ushr ((v4 * (1103515245 : Int32)) + (12345 : Int32)) (8 : Int32)) (M.2.1 163 1)) = (ro_irem (ro_ushr ((v4 * (1103515245 : Int32)) + (12345 : Int32)) (12 : Int32)) (M.2.1 163 1)) → (xq_273_76 n M (v8 + (1 : Int32)) v7 v6 v5 ((v4 * (1103515245 : Int32)) + (12345 : Int32)) v1 v2 v3)) ∧ (¬ ((ro_irem (ro_ushr ((v4 * (1103515245 : Int32)) + (12345 : Int32)) (8 : Int32)) (M.2.1 163 1)) = (ro_irem (ro_ushr ((v4 * (1103515245 : Int32)) + (12345 : Int32)) (12 : Int32)) (M.2.1 163 1))) → (xp_241 M (ro_irem (ro_ushr ((v4 * (1103515245 : Int32)) + (12345 : Int32)) (8 : Int32)) (M.2.1 163 1)) (ro_irem (ro_ushr ((v4 * (1103515245 : Int32)) + (12345 : Int32)) (12 : Int32)) (M.2.1 163 1)) ∧ (((xf_241 M (ro_irem (ro_ushr ((v4 * (1103515245 : Int32)) + (12345 : Int32)) (8 : Int32)) (M.2.1 163 1)) (ro_irem (ro_ushr ((v4 * (1103515245 : Int32)) + (12345 : Int32)) (12 : Int32)) (M.2.1 163 1))) → (xp_229 M (ro_irem (ro_ushr ((v4 * (1103515245 : Int32)) + (12345 : Int32)) (8 : Int32)) (M.2.1 163 1)) (ro_irem (ro_ushr ((v4 * (1103515245 : Int32)) + (12345 : Int32)) (12 : Int32)) (M.2.1 163 1)) ∧ (((xf_229 M (ro_irem (ro_ushr ((v4 * (1103515245 : Int32)) + (12345 : Int32)) (8 : Int32)) (M.2.1 163 1)) (ro_irem (ro_ushr ((v4 * (1103515245 : Int32)) + (12345 : Int32)) (12 : Int32)) (M.2.1 163 1))) ≤ (ro_irem (ro_ushr ((v4 * (1103515245 : Int32)) + (12345 : Int32)) (20 : Int32)) (12 : Int32)) → (xp_245 (xm_229 M (ro_irem (ro_ushr ((v4 * (1103515245 : Int32)) + (12345 : Int32)) (8 : Int32)) (M.2.1 163 1)) (ro_irem (ro_ushr ((v4 * (1103515245 : Int32)) + (12345 : Int32)) (12 : Int32)) (M.2.1 163 1))) (ro_irem (ro_ushr ((v4 * (1103515245 : Int32)) + (12345 : Int32)) (8 : Int32)) (M.2.1 163 1)) (ro_irem (ro_ushr ((v4 * (1103515245 : Int32)) + (12345 : Int32)) (12 : Int32)) (M.2.1 163 1)) ∧ (xq_273_76 n (xm_245 (xm_229 M (ro_irem (ro_ushr ((v4 * (1103515245 : Int32)) + (12345 : Int32)) (8 : Int32)) (M.2.1 163 1)) (ro_irem (ro_ushr ((v4 * (1103515245 : Int32)) + (12345 : Int32)) (12 : Int32)) (M.2.1 163 1))) (ro_irem (ro_ushr ((v4 * (1103515245 : Int32)) + (12345 : Int32)) (8 : Int32)) (M.2.1 163 1)) (ro_irem (ro_ushr ((v4 * (1103515245 : Int32)) + (12345 : Int32)) (12 : Int32)) (M.2.1 163 1))) (v8 + (1 : Int32)) v7 v6 v5 ((v4 * (1103515245 : Int32)) + (12345 : Int32)) v1 v2 v3))) ∧ (¬ ((xf_229 M (ro_irem (ro_ushr ((v4 * (1103515245 : Int32)) + (12345 : Int32)) (8 : Int32)) (M.2.1 163 1)) (ro_irem (ro_ushr ((v4 * (1103515245 : Int32)) + (12345 : Int32)) (12 : Int32)) (M.2.1 163 1))) ≤ (ro_irem (ro_ushr ((v4 * (1103515245 : Int32)) + (12345 : Int32)) (20 : Int32)) (12 : Int32))) → (xp_244 (xm_229 M (ro_irem (ro_ushr ((v4 * (1103515245 : Int32)) + (12345 : Int32)) (8 : Int32)) (M.2.1 163 1)) (ro_irem (ro_ushr ((v4 * (1103515245 : Int32)) + (12345 : Int32)) (12 : Int32)) (M.2.1 163 1))) (ro_irem (ro_ushr ((v4 * (1103515245 : Int32)) + (12345 : Int32)) (8 : Int32)) (M.2.1 163 1)) ∧ (xq_273_76 n (xm_244 (xm_229 M (ro_irem (ro_ushr ((v4 * (1103515245 : Int32)) + (12345 : Int32)) (8 : Int32)) (M.2.1 163 1)) (ro_irem (ro_ushr ((v4 * (1103515245 : Int32)) + (12345 : Int32)) (12 : Int32)) (M.2.1 163 1))) (ro_irem (ro_ushr ((v4 * (1103515245 : Int32)) + (12345 : Int32)) (8 : Int32)) (M.2.1 163 1))) (v8 + (1 : Int32)) v7 (v6 + (1 : Int32)) v5 ((v4 * (1103515245 : Int32)) + (12345 : Int32)) v1 v2 v3)))))) ∧ (¬ ((xf_241 M (ro_irem (ro_ushr ((v4 * (1103515245 : Int32)) + (12345 : Int32)) (8 : Int32)) (M.2.1 163 1)) (ro_irem (ro_ushr ((v4 * (1103515245 : Int32)) + (12345 : Int32)) (12 : Int32)) (M.2.1 163 1)))) → (xq_273_76 n M (v8 + (1 : Int32)) v7 v6 v5 ((v4 * (1103515245 : Int32)) + (12345 : Int32)) v1 v2 v3))))))))))
theorem xt_273_76 {X : ro_Sx} {post : ro_Po} : ∀ (n : Nat) {M : ro_Mm} {v8 : Int32} {v7 : Int32} {v6 : Int32} {v5 : Int32} {v4 : Int32} {v1 : Int32} {v2 : Int32} {v3 : Int32} (hL : ro_lay M) (hp : xq_273_76 n M v8 v7 v6 v5 v4 v1 v2 v3) (hk : ro_w X 4 273 post 187 [(8, .int (xg_273_76 n M v8 v7 v6 v5 v4 v1 v2 v3).1), (7, .int v7), (6, .int (xg_273_76 n M v8 v7 v6 v5 v4 v1 v2 v3).2.1), (5, .int v5), (4, .int (xg_273_76 n M v8 v7 v6 v5 v4 v1 v2 v3).2.2.1), (0, .ref 163), (1, .int v1), (2, .int v2), (3, .int v3)] [] (xg_273_76 n M v8 v7 v6 v5 v4 v1 v2 v3).2.2.2 (0, 0)), ro_w X 4 273 post 76 [(8, .int v8), (7, .int v7), (6, .int v6), (5, .int v5), (4, .int v4), (0, .ref 163), (1, .int v1), (2, .int v2), (3, .int v3)] [] M (0, 0) := by
  intro n
  induction n with
  | zero => intro M v8 v7 v6 v5 v4 v1 v2 v3 hL hp hk; exact False.elim hp
  | succ n ih =>
    intro M v8 v7 v6 v5 v4 v1 v2 v3 hL hp hk
    rw [xq_273_76] at hp
    refine rs_iload ri_273_76 rfl rfl ?_
    refine rs_iload_n ri_273_78 rfl rfl ?_
    refine rs_bipush (v := (100 : Int32)) ri_273_79 rfl (by decide) ?_
    refine rs_irem (r := (ro_irem v2 (100 : Int32))) ri_273_81 rfl (by decide) rfl ?_
    refine rs_icmp_ge (t := 187) ri_273_82 rfl rfl (fun h8 => ?_) (fun h8 => ?_)
    · skip
      have e : xg_273_76 (n + 1) M v8 v7 v6 v5 v4 v1 v2 v3 = (v8, v6, v4, M) := by rw [xg_273_76]; first | (simp only [if_pos h8]; done) | rfl
      rw [e] at hk
      exact ro_w_lv (ro_sub_c rfl (ro_sub_c rfl (ro_sub_c rfl (ro_sub_c rfl (ro_sub_c rfl (ro_sub_c rfl (ro_sub_c rfl (ro_sub_c rfl (ro_sub_c rfl (ro_sub_n rfl)))))))))) hk
    · have hp := hp.2 h8
      refine rs_iload ri_273_85 rfl rfl ?_
      refine rs_ldc_w (v := (1103515245 : Int32)) ri_273_87 rfl rfl (by decide) ?_
      refine rs_imul (r := (v4 * (1103515245 : Int32))) ri_273_90 rfl rfl ?_
      refine rs_sipush (v := (12345 : Int32)) ri_273_91 rfl (by decide) ?_
      refine rs_iadd (r := ((v4 * (1103515245 : Int32)) + (12345 : Int32))) ri_273_94 rfl rfl ?_
      refine rs_istore (lv2 := [(4, .int ((v4 * (1103515245 : Int32)) + (12345 : Int32))), (8, .int v8), (7, .int v7), (6, .int v6), (5, .int v5), (0, .ref 163), (1, .int v1), (2, .int v2), (3, .int v3)]) ri_273_95 rfl rm_273.1 (by decide) rfl ?_
      refine rs_iload ri_273_97 rfl rfl ?_
      refine rs_bipush (v := (8 : Int32)) ri_273_99 rfl (by decide) ?_
      refine rs_iushr (r := (ro_ushr ((v4 * (1103515245 : Int32)) + (12345 : Int32)) (8 : Int32))) ri_273_101 rfl rfl ?_
      refine rs_aload_n ri_273_102 rfl rfl ?_
      refine rs_gf (v := .int (M.2.1 163 1)) ri_273_103 rfl (by decide) (ro_kf (kd_163 hL)) rfl rfl ?_
      obtain ⟨q8, hp⟩ := hp
      refine rs_irem (r := (ro_irem (ro_ushr ((v4 * (1103515245 : Int32)) + (12345 : Int32)) (8 : Int32)) (M.2.1 163 1))) ri_273_106 rfl q8 rfl ?_
      refine rs_istore (lv2 := [(9, .int (ro_irem (ro_ushr ((v4 * (1103515245 : Int32)) + (12345 : Int32)) (8 : Int32)) (M.2.1 163 1))), (4, .int ((v4 * (1103515245 : Int32)) + (12345 : Int32))), (8, .int v8), (7, .int v7), (6, .int v6), (5, .int v5), (0, .ref 163), (1, .int v1), (2, .int v2), (3, .int v3)]) ri_273_107 rfl rm_273.1 (by decide) rfl ?_
      refine rs_iload ri_273_109 rfl rfl ?_
      refine rs_bipush (v := (12 : Int32)) ri_273_111 rfl (by decide) ?_
      refine rs_iushr (r := (ro_ushr ((v4 * (1103515245 : Int32)) + (12345 : Int32)) (12 : Int32))) ri_273_113 rfl rfl ?_
      refine rs_aload_n ri_273_114 rfl rfl ?_
      refine rs_gf (v := .int (M.2.1 163 1)) ri_273_115 rfl (by decide) (ro_kf (kd_163 hL)) rfl rfl ?_
      obtain ⟨q9, hp⟩ := hp
      refine rs_irem (r := (ro_irem (ro_ushr ((v4 * (1103515245 : Int32)) + (12345 : Int32)) (12 : Int32)) (M.2.1 163 1))) ri_273_118 rfl q9 rfl ?_
      refine rs_istore (lv2 := [(10, .int (ro_irem (ro_ushr ((v4 * (1103515245 : Int32)) + (12345 : Int32)) (12 : Int32)) (M.2.1 163 1))), (9, .int (ro_irem (ro_ushr ((v4 * (1103515245 : Int32)) + (12345 : Int32)) (8 : Int32)) (M.2.1 163 1))), (4, .int ((v4 * (1103515245 : Int32)) + (12345 : Int32))), (8, .int v8), (7, .int v7), (6, .int v6), (5, .int v5), (0, .ref 163), (1, .int v1), (2, .int v2), (3, .int v3)]) ri_273_119 rfl rm_273.1 (by decide) rfl ?_
      refine rs_iload ri_273_121 rfl rfl ?_
      refine rs_iload ri_273_123 rfl rfl ?_
      refine rs_icmp_eq (t := 181) ri_273_125 rfl rfl (fun h11 => ?_) (fun h11 => ?_)
      · have hp := hp.1 h11
        refine rs_iinc (v := (v8 + (1 : Int32))) (lv2 := [(8, .int (v8 + (1 : Int32))), (10, .int (ro_irem (ro_ushr ((v4 * (1103515245 : Int32)) + (12345 : Int32)) (12 : Int32)) (M.2.1 163 1))), (9, .int (ro_irem (ro_ushr ((v4 * (1103515245 : Int32)) + (12345 : Int32)) (8 : Int32)) (M.2.1 163 1))), (4, .int ((v4 * (1103515245 : Int32)) + (12345 : Int32))), (7, .int v7), (6, .int v6), (5, .int v5), (0, .ref 163), (1, .int v1), (2, .int v2), (3, .int v3)]) ri_273_181 rfl rfl rfl rm_273.1 (by decide) rfl ?_
        refine rs_goto (t := 76) ri_273_184 rfl ?_
        have e : xg_273_76 (n + 1) M v8 v7 v6 v5 v4 v1 v2 v3 = xg_273_76 n M (v8 + (1 : Int32)) v7 v6 v5 ((v4 * (1103515245 : Int32)) + (12345 : Int32)) v1 v2 v3 := by rw [xg_273_76]; first | (simp only [if_neg h8, if_pos h11]; done) | rfl
        rw [e] at hk
        exact ro_w_lv (ro_sub_c rfl (ro_sub_c rfl (ro_sub_c rfl (ro_sub_c rfl (ro_sub_c rfl (ro_sub_c rfl (ro_sub_c rfl (ro_sub_c rfl (ro_sub_c rfl (ro_sub_n rfl)))))))))) (ih hL  hp hk)
      · have hp := hp.2 h11
        refine rs_aload_n ri_273_128 rfl rfl ?_
        refine rs_iload ri_273_129 rfl rfl ?_
        refine rs_iload ri_273_131 rfl rfl ?_
        obtain ⟨q11, hp⟩ := hp
        refine rs_virt (As := [.int (ro_irem (ro_ushr ((v4 * (1103515245 : Int32)) + (12345 : Int32)) (8 : Int32)) (M.2.1 163 1)), .int (ro_irem (ro_ushr ((v4 * (1103515245 : Int32)) + (12345 : Int32)) (12 : Int32)) (M.2.1 163 1))]) (r := []) ri_273_133 rfl (by decide) rm_241.2.2.2 rm_241.2.2.1 rfl rfl rfl (by decide) (ro_kf (kd_163 hL)) (Nat.le_of_ble_eq_true rfl) (by decide) (by decide) (xs_241 (X := X) hL q11) ?_
        rintro _ _ ⟨e1, e2⟩
        rw [e1, e2]
        show ro_w X _ 273 _ 136 [(10, .int (ro_irem (ro_ushr ((v4 * (1103515245 : Int32)) + (12345 : Int32)) (12 : Int32)) (M.2.1 163 1))), (9, .int (ro_irem (ro_ushr ((v4 * (1103515245 : Int32)) + (12345 : Int32)) (8 : Int32)) (M.2.1 163 1))), (4, .int ((v4 * (1103515245 : Int32)) + (12345 : Int32))), (8, .int v8), (7, .int v7), (6, .int v6), (5, .int v5), (0, .ref 163), (1, .int v1), (2, .int v2), (3, .int v3)] [.int (ro_b (xf_241 M (ro_irem (ro_ushr ((v4 * (1103515245 : Int32)) + (12345 : Int32)) (8 : Int32)) (M.2.1 163 1)) (ro_irem (ro_ushr ((v4 * (1103515245 : Int32)) + (12345 : Int32)) (12 : Int32)) (M.2.1 163 1))))] M (0, 0)
        refine rs_ifne_c (t := 142) ri_273_136 rfl rfl (fun h13 => ?_) (fun h13 => ?_)
        · have hp := hp.1 h13
          refine rs_iload ri_273_142 rfl rfl ?_
          refine rs_bipush (v := (20 : Int32)) ri_273_144 rfl (by decide) ?_
          refine rs_iushr (r := (ro_ushr ((v4 * (1103515245 : Int32)) + (12345 : Int32)) (20 : Int32))) ri_273_146 rfl rfl ?_
          refine rs_bipush (v := (12 : Int32)) ri_273_147 rfl (by decide) ?_
          refine rs_irem (r := (ro_irem (ro_ushr ((v4 * (1103515245 : Int32)) + (12345 : Int32)) (20 : Int32)) (12 : Int32))) ri_273_149 rfl (by decide) rfl ?_
          refine rs_aload_n ri_273_150 rfl rfl ?_
          refine rs_iload ri_273_151 rfl rfl ?_
          refine rs_iload ri_273_153 rfl rfl ?_
          obtain ⟨q13, hp⟩ := hp
          refine rs_virt (As := [.int (ro_irem (ro_ushr ((v4 * (1103515245 : Int32)) + (12345 : Int32)) (8 : Int32)) (M.2.1 163 1)), .int (ro_irem (ro_ushr ((v4 * (1103515245 : Int32)) + (12345 : Int32)) (12 : Int32)) (M.2.1 163 1))]) (r := [.int (ro_irem (ro_ushr ((v4 * (1103515245 : Int32)) + (12345 : Int32)) (20 : Int32)) (12 : Int32))]) ri_273_155 rfl (by decide) rm_229.2.2.2 rm_229.2.2.1 rfl rfl rfl (by decide) (ro_kf (kd_163 hL)) (Nat.le_of_ble_eq_true rfl) (by decide) (by decide) (xs_229 (X := X) hL q13) ?_
          rintro _ _ ⟨e1, e2⟩
          rw [e1, e2]
          show ro_w X _ 273 _ 158 [(10, .int (ro_irem (ro_ushr ((v4 * (1103515245 : Int32)) + (12345 : Int32)) (12 : Int32)) (M.2.1 163 1))), (9, .int (ro_irem (ro_ushr ((v4 * (1103515245 : Int32)) + (12345 : Int32)) (8 : Int32)) (M.2.1 163 1))), (4, .int ((v4 * (1103515245 : Int32)) + (12345 : Int32))), (8, .int v8), (7, .int v7), (6, .int v6), (5, .int v5), (0, .ref 163), (1, .int v1), (2, .int v2), (3, .int v3)] [.int (xf_229 M (ro_irem (ro_ushr ((v4 * (1103515245 : Int32)) + (12345 : Int32)) (8 : Int32)) (M.2.1 163 1)) (ro_irem (ro_ushr ((v4 * (1103515245 : Int32)) + (12345 : Int32)) (12 : Int32)) (M.2.1 163 1))), .int (ro_irem (ro_ushr ((v4 * (1103515245 : Int32)) + (12345 : Int32)) (20 : Int32)) (12 : Int32))] (xm_229 M (ro_irem (ro_ushr ((v4 * (1103515245 : Int32)) + (12345 : Int32)) (8 : Int32)) (M.2.1 163 1)) (ro_irem (ro_ushr ((v4 * (1103515245 : Int32)) + (12345 : Int32)) (12 : Int32)) (M.2.1 163 1))) (0, 0)
          refine rs_icmp_ge (t := 173) ri_273_158 rfl rfl (fun h15 => ?_) (fun h15 => ?_)
          · have hp := hp.1 h15
            refine rs_aload_n ri_273_173 rfl rfl ?_
            refine rs_iload ri_273_174 rfl rfl ?_
            refine rs_iload ri_273_176 rfl rfl ?_
            obtain ⟨q15, hp⟩ := hp
            refine rs_virt (As := [.int (ro_irem (ro_ushr ((v4 * (1103515245 : Int32)) + (12345 : Int32)) (8 : Int32)) (M.2.1 163 1)), .int (ro_irem (ro_ushr ((v4 * (1103515245 : Int32)) + (12345 : Int32)) (12 : Int32)) (M.2.1 163 1))]) (r := []) ri_273_178 rfl (by decide) rm_245.2.2.2 rm_245.2.2.1 rfl rfl rfl (by decide) (ro_kf (kd_163 (xl_229 hL q13))) (Nat.le_of_ble_eq_true rfl) (by decide) (by decide) (xs_245 (X := X) (xl_229 hL q13) q15) ?_
            rintro _ _ ⟨e1, e2⟩
            rw [e1, e2]
            show ro_w X _ 273 _ 181 [(10, .int (ro_irem (ro_ushr ((v4 * (1103515245 : Int32)) + (12345 : Int32)) (12 : Int32)) (M.2.1 163 1))), (9, .int (ro_irem (ro_ushr ((v4 * (1103515245 : Int32)) + (12345 : Int32)) (8 : Int32)) (M.2.1 163 1))), (4, .int ((v4 * (1103515245 : Int32)) + (12345 : Int32))), (8, .int v8), (7, .int v7), (6, .int v6), (5, .int v5), (0, .ref 163), (1, .int v1), (2, .int v2), (3, .int v3)] [] (xm_245 (xm_229 M (ro_irem (ro_ushr ((v4 * (1103515245 : Int32)) + (12345 : Int32)) (8 : Int32)) (M.2.1 163 1)) (ro_irem (ro_ushr ((v4 * (1103515245 : Int32)) + (12345 : Int32)) (12 : Int32)) (M.2.1 163 1))) (ro_irem (ro_ushr ((v4 * (1103515245 : Int32)) + (12345 : Int32)) (8 : Int32)) (M.2.1 163 1)) (ro_irem (ro_ushr ((v4 * (1103515245 : Int32)) + (12345 : Int32)) (12 : Int32)) (M.2.1 163 1))) (0, 0)
            refine rs_iinc (v := (v8 + (1 : Int32))) (lv2 := [(8, .int (v8 + (1 : Int32))), (10, .int (ro_irem (ro_ushr ((v4 * (1103515245 : Int32)) + (12345 : Int32)) (12 : Int32)) (M.2.1 163 1))), (9, .int (ro_irem (ro_ushr ((v4 * (1103515245 : Int32)) + (12345 : Int32)) (8 : Int32)) (M.2.1 163 1))), (4, .int ((v4 * (1103515245 : Int32)) + (12345 : Int32))), (7, .int v7), (6, .int v6), (5, .int v5), (0, .ref 163), (1, .int v1), (2, .int v2), (3, .int v3)]) ri_273_181 rfl rfl rfl rm_273.1 (by decide) rfl ?_
            refine rs_goto (t := 76) ri_273_184 rfl ?_
            have e : xg_273_76 (n + 1) M v8 v7 v6 v5 v4 v1 v2 v3 = xg_273_76 n (xm_245 (xm_229 M (ro_irem (ro_ushr ((v4 * (1103515245 : Int32)) + (12345 : Int32)) (8 : Int32)) (M.2.1 163 1)) (ro_irem (ro_ushr ((v4 * (1103515245 : Int32)) + (12345 : Int32)) (12 : Int32)) (M.2.1 163 1))) (ro_irem (ro_ushr ((v4 * (1103515245 : Int32)) + (12345 : Int32)) (8 : Int32)) (M.2.1 163 1)) (ro_irem (ro_ushr ((v4 * (1103515245 : Int32)) + (12345 : Int32)) (12 : Int32)) (M.2.1 163 1))) (v8 + (1 : Int32)) v7 v6 v5 ((v4 * (1103515245 : Int32)) + (12345 : Int32)) v1 v2 v3 := by rw [xg_273_76]; first | (simp only [if_neg h8, if_neg h11, if_pos h13, if_pos h15]; done) | rfl
            rw [e] at hk
            exact ro_w_lv (ro_sub_c rfl (ro_sub_c rfl (ro_sub_c rfl (ro_sub_c rfl (ro_sub_c rfl (ro_sub_c rfl (ro_sub_c rfl (ro_sub_c rfl (ro_sub_c rfl (ro_sub_n rfl)))))))))) (ih (xl_245 (xl_229 hL q13) q15)  hp hk)
          · have hp := hp.2 h15
            refine rs_aload_n ri_273_161 rfl rfl ?_
            refine rs_iload ri_273_162 rfl rfl ?_
            obtain ⟨q16, hp⟩ := hp
            refine rs_virt (As := [.int (ro_irem (ro_ushr ((v4 * (1103515245 : Int32)) + (12345 : Int32)) (8 : Int32)) (M.2.1 163 1))]) (r := []) ri_273_164 rfl (by decide) rm_244.2.2.2 rm_244.2.2.1 rfl rfl rfl (by decide) (ro_kf (kd_163 (xl_229 hL q13))) (Nat.le_of_ble_eq_true rfl) (by decide) (by decide) (xs_244 (X := X) (xl_229 hL q13) q16) ?_
            rintro _ _ ⟨e1, e2⟩
            rw [e1, e2]
            show ro_w X _ 273 _ 167 [(10, .int (ro_irem (ro_ushr ((v4 * (1103515245 : Int32)) + (12345 : Int32)) (12 : Int32)) (M.2.1 163 1))), (9, .int (ro_irem (ro_ushr ((v4 * (1103515245 : Int32)) + (12345 : Int32)) (8 : Int32)) (M.2.1 163 1))), (4, .int ((v4 * (1103515245 : Int32)) + (12345 : Int32))), (8, .int v8), (7, .int v7), (6, .int v6), (5, .int v5), (0, .ref 163), (1, .int v1), (2, .int v2), (3, .int v3)] [] (xm_244 (xm_229 M (ro_irem (ro_ushr ((v4 * (1103515245 : Int32)) + (12345 : Int32)) (8 : Int32)) (M.2.1 163 1)) (ro_irem (ro_ushr ((v4 * (1103515245 : Int32)) + (12345 : Int32)) (12 : Int32)) (M.2.1 163 1))) (ro_irem (ro_ushr ((v4 * (1103515245 : Int32)) + (12345 : Int32)) (8 : Int32)) (M.2.1 163 1))) (0, 0)
            refine rs_iinc (v := (v6 + (1 : Int32))) (lv2 := [(6, .int (v6 + (1 : Int32))), (10, .int (ro_irem (ro_ushr ((v4 * (1103515245 : Int32)) + (12345 : Int32)) (12 : Int32)) (M.2.1 163 1))), (9, .int (ro_irem (ro_ushr ((v4 * (1103515245 : Int32)) + (12345 : Int32)) (8 : Int32)) (M.2.1 163 1))), (4, .int ((v4 * (1103515245 : Int32)) + (12345 : Int32))), (8, .int v8), (7, .int v7), (5, .int v5), (0, .ref 163), (1, .int v1), (2, .int v2), (3, .int v3)]) ri_273_167 rfl rfl rfl rm_273.1 (by decide) rfl ?_
            refine rs_goto (t := 181) ri_273_170 rfl ?_
            refine rs_iinc (v := (v8 + (1 : Int32))) (lv2 := [(8, .int (v8 + (1 : Int32))), (6, .int (v6 + (1 : Int32))), (10, .int (ro_irem (ro_ushr ((v4 * (1103515245 : Int32)) + (12345 : Int32)) (12 : Int32)) (M.2.1 163 1))), (9, .int (ro_irem (ro_ushr ((v4 * (1103515245 : Int32)) + (12345 : Int32)) (8 : Int32)) (M.2.1 163 1))), (4, .int ((v4 * (1103515245 : Int32)) + (12345 : Int32))), (7, .int v7), (5, .int v5), (0, .ref 163), (1, .int v1), (2, .int v2), (3, .int v3)]) ri_273_181 rfl rfl rfl rm_273.1 (by decide) rfl ?_
            refine rs_goto (t := 76) ri_273_184 rfl ?_
            have e : xg_273_76 (n + 1) M v8 v7 v6 v5 v4 v1 v2 v3 = xg_273_76 n (xm_244 (xm_229 M (ro_irem (ro_ushr ((v4 * (1103515245 : Int32)) + (12345 : Int32)) (8 : Int32)) (M.2.1 163 1)) (ro_irem (ro_ushr ((v4 * (1103515245 : Int32)) + (12345 : Int32)) (12 : Int32)) (M.2.1 163 1))) (ro_irem (ro_ushr ((v4 * (1103515245 : Int32)) + (12345 : Int32)) (8 : Int32)) (M.2.1 163 1))) (v8 + (1 : Int32)) v7 (v6 + (1 : Int32)) v5 ((v4 * (1103515245 : Int32)) + (12345 : Int32)) v1 v2 v3 := by rw [xg_273_76]; first | (simp only [if_neg h8, if_neg h11, if_pos h13, if_neg h15]; done) | rfl
            rw [e] at hk
            exact ro_w_lv (ro_sub_c rfl (ro_sub_c rfl (ro_sub_c rfl (ro_sub_c rfl (ro_sub_c rfl (ro_sub_c rfl (ro_sub_c rfl (ro_sub_c rfl (ro_sub_c rfl (ro_sub_n rfl)))))))))) (ih (xl_244 (xl_229 hL q13) q16)  hp hk)
        · have hp := hp.2 h13
          refine rs_goto (t := 181) ri_273_139 rfl ?_
          refine rs_iinc (v := (v8 + (1 : Int32))) (lv2 := [(8, .int (v8 + (1 : Int32))), (10, .int (ro_irem (ro_ushr ((v4 * (1103515245 : Int32)) + (12345 : Int32)) (12 : Int32)) (M.2.1 163 1))), (9, .int (ro_irem (ro_ushr ((v4 * (1103515245 : Int32)) + (12345 : Int32)) (8 : Int32)) (M.2.1 163 1))), (4, .int ((v4 * (1103515245 : Int32)) + (12345 : Int32))), (7, .int v7), (6, .int v6), (5, .int v5), (0, .ref 163), (1, .int v1), (2, .int v2), (3, .int v3)]) ri_273_181 rfl rfl rfl rm_273.1 (by decide) rfl ?_
          refine rs_goto (t := 76) ri_273_184 rfl ?_
          have e : xg_273_76 (n + 1) M v8 v7 v6 v5 v4 v1 v2 v3 = xg_273_76 n M (v8 + (1 : Int32)) v7 v6 v5 ((v4 * (1103515245 : Int32)) + (12345 : Int32)) v1 v2 v3 := by rw [xg_273_76]; first | (simp only [if_neg h8, if_neg h11, if_neg h13]; done) | rfl
          rw [e] at hk
          exact ro_w_lv (ro_sub_c rfl (ro_sub_c rfl (ro_sub_c rfl (ro_sub_c rfl (ro_sub_c rfl (ro_sub_c rfl (ro_sub_c rfl (ro_sub_c rfl (ro_sub_c rfl (ro_sub_n rfl)))))))))) (ih hL  hp hk)
theorem xl_273_76 : ∀ (n : Nat) {M : ro_Mm} {v8 : Int32} {v7 : Int32} {v6 : Int32} {v5 : Int32} {v4 : Int32} {v1 : Int32} {v2 : Int32} {v3 : Int32} (hL : ro_lay M) (hp : xq_273_76 n M v8 v7 v6 v5 v4 v1 v2 v3), ro_lay (xg_273_76 n M v8 v7 v6 v5 v4 v1 v2 v3).2.2.2 := by
  intro n
  induction n with
  | zero => intro M v8 v7 v6 v5 v4 v1 v2 v3 hL hp; exact False.elim hp
  | succ n ih =>
    intro M v8 v7 v6 v5 v4 v1 v2 v3 hL hp
    rw [xq_273_76] at hp
    rw [xg_273_76]
    by_cases hz : (ro_irem v2 (100 : Int32)) ≤ v8
    · have hp := hp.1 hz
      rw [if_pos hz]
      exact hL
    · have hp := hp.2 hz
      rw [if_neg hz]
      obtain ⟨q8, hp⟩ := hp
      obtain ⟨q9, hp⟩ := hp
      by_cases hz : (ro_irem (ro_ushr ((v4 * (1103515245 : Int32)) + (12345 : Int32)) (8 : Int32)) (M.2.1 163 1)) = (ro_irem (ro_ushr ((v4 * (1103515245 : Int32)) + (12345 : Int32)) (12 : Int32)) (M.2.1 163 1))
      · have hp := hp.1 hz
        rw [if_pos hz]
        exact ih hL  hp
      · have hp := hp.2 hz
        rw [if_neg hz]
        obtain ⟨q11, hp⟩ := hp
        by_cases hz : (xf_241 M (ro_irem (ro_ushr ((v4 * (1103515245 : Int32)) + (12345 : Int32)) (8 : Int32)) (M.2.1 163 1)) (ro_irem (ro_ushr ((v4 * (1103515245 : Int32)) + (12345 : Int32)) (12 : Int32)) (M.2.1 163 1)))
        · have hp := hp.1 hz
          rw [if_pos hz]
          obtain ⟨q13, hp⟩ := hp
          by_cases hz : (xf_229 M (ro_irem (ro_ushr ((v4 * (1103515245 : Int32)) + (12345 : Int32)) (8 : Int32)) (M.2.1 163 1)) (ro_irem (ro_ushr ((v4 * (1103515245 : Int32)) + (12345 : Int32)) (12 : Int32)) (M.2.1 163 1))) ≤ (ro_irem (ro_ushr ((v4 * (1103515245 : Int32)) + (12345 : Int32)) (20 : Int32)) (12 : Int32))
          · have hp := hp.1 hz
            rw [if_pos hz]
            obtain ⟨q15, hp⟩ := hp
            exact ih (xl_245 (xl_229 hL q13) q15)  hp
          · have hp := hp.2 hz
            rw [if_neg hz]
            obtain ⟨q16, hp⟩ := hp
            exact ih (xl_244 (xl_229 hL q13) q16)  hp
        · have hp := hp.2 hz
          rw [if_neg hz]
          exact ih hL  hp
theorem xwI_273_76 : ∀ {n : Nat} {M : ro_Mm} {v8 : Int32} {v7 : Int32} {v6 : Int32} {v5 : Int32} {v4 : Int32} {v1 : Int32} {v2 : Int32} {v3 : Int32} {c j : Nat} (n0 : c ≠ 179) (n1 : c ≠ 180) (n2 : c ≠ 181) (n3 : c ≠ 182), (xg_273_76 n M v8 v7 v6 v5 v4 v1 v2 v3).2.2.2.2.1 c j = M.2.1 c j := by
  intro n
  induction n with
  | zero => intro M v8 v7 v6 v5 v4 v1 v2 v3 c j n0 n1 n2 n3; rfl
  | succ n ih =>
    intro M v8 v7 v6 v5 v4 v1 v2 v3 c j n0 n1 n2 n3
    rw [xg_273_76]
    by_cases hz : (ro_irem v2 (100 : Int32)) ≤ v8
    · rw [if_pos hz]
      first | done | exact rfl
    · rw [if_neg hz]
      by_cases hz : (ro_irem (ro_ushr ((v4 * (1103515245 : Int32)) + (12345 : Int32)) (8 : Int32)) (M.2.1 163 1)) = (ro_irem (ro_ushr ((v4 * (1103515245 : Int32)) + (12345 : Int32)) (12 : Int32)) (M.2.1 163 1))
      · rw [if_pos hz]
        first | done | exact (ih n0 n1 n2 n3)
      · rw [if_neg hz]
        by_cases hz : (xf_241 M (ro_irem (ro_ushr ((v4 * (1103515245 : Int32)) + (12345 : Int32)) (8 : Int32)) (M.2.1 163 1)) (ro_irem (ro_ushr ((v4 * (1103515245 : Int32)) + (12345 : Int32)) (12 : Int32)) (M.2.1 163 1)))
        · rw [if_pos hz]
          by_cases hz : (xf_229 M (ro_irem (ro_ushr ((v4 * (1103515245 : Int32)) + (12345 : Int32)) (8 : Int32)) (M.2.1 163 1)) (ro_irem (ro_ushr ((v4 * (1103515245 : Int32)) + (12345 : Int32)) (12 : Int32)) (M.2.1 163 1))) ≤ (ro_irem (ro_ushr ((v4 * (1103515245 : Int32)) + (12345 : Int32)) (20 : Int32)) (12 : Int32))
          · rw [if_pos hz]
            first | done | exact ((((ih n0 n1 n2 n3)).trans (xwI_245 n2)).trans (xwI_229 n0 n1))
          · rw [if_neg hz]
            first | done | exact ((((ih n0 n1 n2 n3)).trans (xwI_244 n2 n3)).trans (xwI_229 n0 n1))
        · rw [if_neg hz]
          first | done | exact (ih n0 n1 n2 n3)
theorem xwJ_273_76 : ∀ {n : Nat} {M : ro_Mm} {v8 : Int32} {v7 : Int32} {v6 : Int32} {v5 : Int32} {v4 : Int32} {v1 : Int32} {v2 : Int32} {v3 : Int32} {c j : Nat}, (xg_273_76 n M v8 v7 v6 v5 v4 v1 v2 v3).2.2.2.2.2.1 c j = M.2.2.1 c j := by
  intro n
  induction n with
  | zero => intro M v8 v7 v6 v5 v4 v1 v2 v3 c j; rfl
  | succ n ih =>
    intro M v8 v7 v6 v5 v4 v1 v2 v3 c j
    rw [xg_273_76]
    by_cases hz : (ro_irem v2 (100 : Int32)) ≤ v8
    · rw [if_pos hz]
      first | done | exact rfl
    · rw [if_neg hz]
      by_cases hz : (ro_irem (ro_ushr ((v4 * (1103515245 : Int32)) + (12345 : Int32)) (8 : Int32)) (M.2.1 163 1)) = (ro_irem (ro_ushr ((v4 * (1103515245 : Int32)) + (12345 : Int32)) (12 : Int32)) (M.2.1 163 1))
      · rw [if_pos hz]
        first | done | exact (ih)
      · rw [if_neg hz]
        by_cases hz : (xf_241 M (ro_irem (ro_ushr ((v4 * (1103515245 : Int32)) + (12345 : Int32)) (8 : Int32)) (M.2.1 163 1)) (ro_irem (ro_ushr ((v4 * (1103515245 : Int32)) + (12345 : Int32)) (12 : Int32)) (M.2.1 163 1)))
        · rw [if_pos hz]
          by_cases hz : (xf_229 M (ro_irem (ro_ushr ((v4 * (1103515245 : Int32)) + (12345 : Int32)) (8 : Int32)) (M.2.1 163 1)) (ro_irem (ro_ushr ((v4 * (1103515245 : Int32)) + (12345 : Int32)) (12 : Int32)) (M.2.1 163 1))) ≤ (ro_irem (ro_ushr ((v4 * (1103515245 : Int32)) + (12345 : Int32)) (20 : Int32)) (12 : Int32))
          · rw [if_pos hz]
            first | done | exact ((((ih)).trans (xwJ_245)).trans (xwJ_229))
          · rw [if_neg hz]
            first | done | exact ((((ih)).trans (xwJ_244)).trans (xwJ_229))
        · rw [if_neg hz]
          first | done | exact (ih)
/-- a loop of RefusedOnceModel.drawn(III)I -/
noncomputable def xg_273_190 : Nat → ro_Mm → Int32 → Int32 → Int32 → Int32 → Int32 → Int32 → Int32 → Int32 → Int32 × Int32
  | 0, M, v8, v7, v6, v5, v4, v1, v2, v3 => (v8, v5)
  | n + 1, M, v8, v7, v6, v5, v4, v1, v2, v3 => (if (M.2.1 163 1) ≤ v8 then (v8, v5) else (xg_273_190 n M (v8 + (1 : Int32)) v7 v6 (v5 + (M.2.1 181 (v8.toNatClampNeg))) v4 v1 v2 v3))
def xq_273_190 : Nat → ro_Mm → Int32 → Int32 → Int32 → Int32 → Int32 → Int32 → Int32 → Int32 → Prop
  | 0, _, _, _, _, _, _, _, _, _ => False
  | n + 1, M, v8, v7, v6, v5, v4, v1, v2, v3 => (((M.2.1 163 1) ≤ v8 → True) ∧ (¬ ((M.2.1 163 1) ≤ v8) → (vp_in v8 6 ∧ (xq_273_190 n M (v8 + (1 : Int32)) v7 v6 (v5 + (M.2.1 181 (v8.toNatClampNeg))) v4 v1 v2 v3))))
theorem xt_273_190 {X : ro_Sx} {post : ro_Po} : ∀ (n : Nat) {M : ro_Mm} {v8 : Int32} {v7 : Int32} {v6 : Int32} {v5 : Int32} {v4 : Int32} {v1 : Int32} {v2 : Int32} {v3 : Int32} (hL : ro_lay M) (hp : xq_273_190 n M v8 v7 v6 v5 v4 v1 v2 v3) (hk : ro_w X 4 273 post 217 [(8, .int (xg_273_190 n M v8 v7 v6 v5 v4 v1 v2 v3).1), (7, .int v7), (6, .int v6), (5, .int (xg_273_190 n M v8 v7 v6 v5 v4 v1 v2 v3).2), (4, .int v4), (0, .ref 163), (1, .int v1), (2, .int v2), (3, .int v3)] [] M (0, 0)), ro_w X 4 273 post 190 [(8, .int v8), (7, .int v7), (6, .int v6), (5, .int v5), (4, .int v4), (0, .ref 163), (1, .int v1), (2, .int v2), (3, .int v3)] [] M (0, 0) := by
  intro n
  induction n with
  | zero => intro M v8 v7 v6 v5 v4 v1 v2 v3 hL hp hk; exact False.elim hp
  | succ n ih =>
    intro M v8 v7 v6 v5 v4 v1 v2 v3 hL hp hk
    rw [xq_273_190] at hp
    refine rs_iload ri_273_190 rfl rfl ?_
    refine rs_aload_n ri_273_192 rfl rfl ?_
    refine rs_gf (v := .int (M.2.1 163 1)) ri_273_193 rfl (by decide) (ro_kf (kd_163 hL)) rfl rfl ?_
    refine rs_icmp_ge (t := 217) ri_273_196 rfl rfl (fun h19 => ?_) (fun h19 => ?_)
    · skip
      have e : xg_273_190 (n + 1) M v8 v7 v6 v5 v4 v1 v2 v3 = (v8, v5) := by rw [xg_273_190]; first | (simp only [if_pos h19]; done) | rfl
      rw [e] at hk
      exact ro_w_lv (ro_sub_c rfl (ro_sub_c rfl (ro_sub_c rfl (ro_sub_c rfl (ro_sub_c rfl (ro_sub_c rfl (ro_sub_c rfl (ro_sub_c rfl (ro_sub_c rfl (ro_sub_n rfl)))))))))) hk
    · have hp := hp.2 h19
      refine rs_iload ri_273_199 rfl rfl ?_
      refine rs_aload_n ri_273_201 rfl rfl ?_
      refine rs_gf (v := .ref 181) ri_273_202 rfl (by decide) (ro_kf (kd_163 hL)) rfl (rf_163_27 hL) ?_
      refine rs_iload ri_273_205 rfl rfl ?_
      obtain ⟨q19, hp⟩ := hp
      refine rs_iald (v := (M.2.1 181 (v8.toNatClampNeg))) ri_273_207 rfl (by decide) (kd_181 hL) q19 rfl ?_
      refine rs_iadd (r := (v5 + (M.2.1 181 (v8.toNatClampNeg)))) ri_273_208 rfl rfl ?_
      refine rs_istore (lv2 := [(5, .int (v5 + (M.2.1 181 (v8.toNatClampNeg)))), (8, .int v8), (7, .int v7), (6, .int v6), (4, .int v4), (0, .ref 163), (1, .int v1), (2, .int v2), (3, .int v3)]) ri_273_209 rfl rm_273.1 (by decide) rfl ?_
      refine rs_iinc (v := (v8 + (1 : Int32))) (lv2 := [(8, .int (v8 + (1 : Int32))), (5, .int (v5 + (M.2.1 181 (v8.toNatClampNeg)))), (7, .int v7), (6, .int v6), (4, .int v4), (0, .ref 163), (1, .int v1), (2, .int v2), (3, .int v3)]) ri_273_211 rfl rfl rfl rm_273.1 (by decide) rfl ?_
      refine rs_goto (t := 190) ri_273_214 rfl ?_
      have e : xg_273_190 (n + 1) M v8 v7 v6 v5 v4 v1 v2 v3 = xg_273_190 n M (v8 + (1 : Int32)) v7 v6 (v5 + (M.2.1 181 (v8.toNatClampNeg))) v4 v1 v2 v3 := by rw [xg_273_190]; first | (simp only [if_neg h19]; done) | rfl
      rw [e] at hk
      exact ro_w_lv (ro_sub_c rfl (ro_sub_c rfl (ro_sub_c rfl (ro_sub_c rfl (ro_sub_c rfl (ro_sub_c rfl (ro_sub_c rfl (ro_sub_c rfl (ro_sub_c rfl (ro_sub_n rfl)))))))))) (ih hL  hp hk)
/-- a loop of RefusedOnceModel.drawn(III)I -/
noncomputable def xg_273_53 : Nat → ro_Mm → Int32 → Int32 → Int32 → Int32 → Int32 → Int32 → Int32 → Int32 × Int32 × Int32 × Int32 × ro_Mm
  | 0, M, v7, v6, v5, v4, v1, v2, v3 => (v7, v6, v5, v4, M)
  | n + 1, M, v7, v6, v5, v4, v1, v2, v3 => (if (v2 / (100 : Int32)) ≤ v7 then (v7, v6, v5, v4, M) else (if (M.2.1 163 1) ≤ (0 : Int32) then (v7, v6, v5, v4, M) else (xg_273_53 n (xg_273_76 lp_N (xm_228 M) (0 : Int32) v7 v6 v5 v4 v1 v2 v3).2.2.2 (v7 + (1 : Int32)) (xg_273_76 lp_N (xm_228 M) (0 : Int32) v7 v6 v5 v4 v1 v2 v3).2.1 (xg_273_190 lp_N (xg_273_76 lp_N (xm_228 M) (0 : Int32) v7 v6 v5 v4 v1 v2 v3).2.2.2 (0 : Int32) v7 (xg_273_76 lp_N (xm_228 M) (0 : Int32) v7 v6 v5 v4 v1 v2 v3).2.1 v5 (xg_273_76 lp_N (xm_228 M) (0 : Int32) v7 v6 v5 v4 v1 v2 v3).2.2.1 v1 v2 v3).2 (xg_273_76 lp_N (xm_228 M) (0 : Int32) v7 v6 v5 v4 v1 v2 v3).2.2.1 v1 v2 v3)))
def xq_273_53 : Nat → ro_Mm → Int32 → Int32 → Int32 → Int32 → Int32 → Int32 → Int32 → Prop
  | 0, _, _, _, _, _, _, _, _ => False
  | n + 1, M, v7, v6, v5, v4, v1, v2, v3 => (((v2 / (100 : Int32)) ≤ v7 → True) ∧ (¬ ((v2 / (100 : Int32)) ≤ v7) → (((M.2.1 163 1) ≤ (0 : Int32) → True) ∧ (¬ ((M.2.1 163 1) ≤ (0 : Int32)) → (xp_228 M ∧ (xq_273_76 lp_N (xm_228 M) (0 : Int32) v7 v6 v5 v4 v1 v2 v3 ∧ (xq_273_190 lp_N (xg_273_76 lp_N (xm_228 M) (0 : Int32) v7 v6 v5 v4 v1 v2 v3).2.2.2 (0 : Int32) v7 (xg_273_76 lp_N (xm_228 M) (0 : Int32) v7 v6 v5 v4 v1 v2 v3).2.1 v5 (xg_273_76 lp_N (xm_228 M) (0 : Int32) v7 v6 v5 v4 v1 v2 v3).2.2.1 v1 v2 v3 ∧ (xq_273_53 n (xg_273_76 lp_N (xm_228 M) (0 : Int32) v7 v6 v5 v4 v1 v2 v3).2.2.2 (v7 + (1 : Int32)) (xg_273_76 lp_N (xm_228 M) (0 : Int32) v7 v6 v5 v4 v1 v2 v3).2.1 (xg_273_190 lp_N (xg_273_76 lp_N (xm_228 M) (0 : Int32) v7 v6 v5 v4 v1 v2 v3).2.2.2 (0 : Int32) v7 (xg_273_76 lp_N (xm_228 M) (0 : Int32) v7 v6 v5 v4 v1 v2 v3).2.1 v5 (xg_273_76 lp_N (xm_228 M) (0 : Int32) v7 v6 v5 v4 v1 v2 v3).2.2.1 v1 v2 v3).2 (xg_273_76 lp_N (xm_228 M) (0 : Int32) v7 v6 v5 v4 v1 v2 v3).2.2.1 v1 v2 v3))))))))
theorem xt_273_53 {X : ro_Sx} {post : ro_Po} : ∀ (n : Nat) {M : ro_Mm} {v7 : Int32} {v6 : Int32} {v5 : Int32} {v4 : Int32} {v1 : Int32} {v2 : Int32} {v3 : Int32} (hL : ro_lay M) (hp : xq_273_53 n M v7 v6 v5 v4 v1 v2 v3) (hk : ro_w X 4 273 post 223 [(7, .int (xg_273_53 n M v7 v6 v5 v4 v1 v2 v3).1), (6, .int (xg_273_53 n M v7 v6 v5 v4 v1 v2 v3).2.1), (5, .int (xg_273_53 n M v7 v6 v5 v4 v1 v2 v3).2.2.1), (4, .int (xg_273_53 n M v7 v6 v5 v4 v1 v2 v3).2.2.2.1), (0, .ref 163), (1, .int v1), (2, .int v2), (3, .int v3)] [] (xg_273_53 n M v7 v6 v5 v4 v1 v2 v3).2.2.2.2 (0, 0)), ro_w X 4 273 post 53 [(7, .int v7), (6, .int v6), (5, .int v5), (4, .int v4), (0, .ref 163), (1, .int v1), (2, .int v2), (3, .int v3)] [] M (0, 0) := by
  intro n
  induction n with
  | zero => intro M v7 v6 v5 v4 v1 v2 v3 hL hp hk; exact False.elim hp
  | succ n ih =>
    intro M v7 v6 v5 v4 v1 v2 v3 hL hp hk
    rw [xq_273_53] at hp
    refine rs_iload ri_273_53 rfl rfl ?_
    refine rs_iload_n ri_273_55 rfl rfl ?_
    refine rs_bipush (v := (100 : Int32)) ri_273_56 rfl (by decide) ?_
    refine rs_idiv (r := (v2 / (100 : Int32))) ri_273_58 rfl (by decide) rfl ?_
    refine rs_icmp_ge (t := 223) ri_273_59 rfl rfl (fun h5 => ?_) (fun h5 => ?_)
    · skip
      have e : xg_273_53 (n + 1) M v7 v6 v5 v4 v1 v2 v3 = (v7, v6, v5, v4, M) := by rw [xg_273_53]; first | (simp only [if_pos h5]; done) | rfl
      rw [e] at hk
      exact ro_w_lv (ro_sub_c rfl (ro_sub_c rfl (ro_sub_c rfl (ro_sub_c rfl (ro_sub_c rfl (ro_sub_c rfl (ro_sub_c rfl (ro_sub_c rfl (ro_sub_n rfl))))))))) hk
    · have hp := hp.2 h5
      refine rs_aload_n ri_273_62 rfl rfl ?_
      refine rs_gf (v := .int (M.2.1 163 1)) ri_273_63 rfl (by decide) (ro_kf (kd_163 hL)) rfl rfl ?_
      refine rs_if_le (t := 223) ri_273_66 rfl rfl (fun h6 => ?_) (fun h6 => ?_)
      · skip
        have e : xg_273_53 (n + 1) M v7 v6 v5 v4 v1 v2 v3 = (v7, v6, v5, v4, M) := by rw [xg_273_53]; first | (simp only [if_neg h5, if_pos h6]; done) | rfl
        rw [e] at hk
        exact ro_w_lv (ro_sub_c rfl (ro_sub_c rfl (ro_sub_c rfl (ro_sub_c rfl (ro_sub_c rfl (ro_sub_c rfl (ro_sub_c rfl (ro_sub_c rfl (ro_sub_n rfl))))))))) hk
      · have hp := hp.2 h6
        refine rs_aload_n ri_273_69 rfl rfl ?_
        obtain ⟨q6, hp⟩ := hp
        refine rs_virt (As := []) (r := []) ri_273_70 rfl (by decide) rm_228.2.2.2 rm_228.2.2.1 rfl rfl rfl (by decide) (ro_kf (kd_163 hL)) (Nat.le_of_ble_eq_true rfl) (by decide) (by decide) (xs_228 (X := X) hL q6) ?_
        rintro _ _ ⟨e1, e2⟩
        rw [e1, e2]
        show ro_w X _ 273 _ 73 [(7, .int v7), (6, .int v6), (5, .int v5), (4, .int v4), (0, .ref 163), (1, .int v1), (2, .int v2), (3, .int v3)] [] (xm_228 M) (0, 0)
        refine rs_iconst (v := (0 : Int32)) ri_273_73 rfl (by decide) ?_
        refine rs_istore (lv2 := [(8, .int (0 : Int32)), (7, .int v7), (6, .int v6), (5, .int v5), (4, .int v4), (0, .ref 163), (1, .int v1), (2, .int v2), (3, .int v3)]) ri_273_74 rfl rm_273.1 (by decide) rfl ?_
        obtain ⟨q17, hp⟩ := hp
        refine xt_273_76 lp_N (xl_228 hL q6) q17 ?_
        refine rs_iconst (v := (0 : Int32)) ri_273_187 rfl (by decide) ?_
        refine rs_istore (lv2 := [(8, .int (0 : Int32)), (7, .int v7), (6, .int (xg_273_76 lp_N (xm_228 M) (0 : Int32) v7 v6 v5 v4 v1 v2 v3).2.1), (5, .int v5), (4, .int (xg_273_76 lp_N (xm_228 M) (0 : Int32) v7 v6 v5 v4 v1 v2 v3).2.2.1), (0, .ref 163), (1, .int v1), (2, .int v2), (3, .int v3)]) ri_273_188 rfl rm_273.1 (by decide) rfl ?_
        obtain ⟨q20, hp⟩ := hp
        refine xt_273_190 lp_N (xl_273_76 lp_N (xl_228 hL q6) q17) q20 ?_
        refine rs_iinc (v := (v7 + (1 : Int32))) (lv2 := [(7, .int (v7 + (1 : Int32))), (8, .int (xg_273_190 lp_N (xg_273_76 lp_N (xm_228 M) (0 : Int32) v7 v6 v5 v4 v1 v2 v3).2.2.2 (0 : Int32) v7 (xg_273_76 lp_N (xm_228 M) (0 : Int32) v7 v6 v5 v4 v1 v2 v3).2.1 v5 (xg_273_76 lp_N (xm_228 M) (0 : Int32) v7 v6 v5 v4 v1 v2 v3).2.2.1 v1 v2 v3).1), (6, .int (xg_273_76 lp_N (xm_228 M) (0 : Int32) v7 v6 v5 v4 v1 v2 v3).2.1), (5, .int (xg_273_190 lp_N (xg_273_76 lp_N (xm_228 M) (0 : Int32) v7 v6 v5 v4 v1 v2 v3).2.2.2 (0 : Int32) v7 (xg_273_76 lp_N (xm_228 M) (0 : Int32) v7 v6 v5 v4 v1 v2 v3).2.1 v5 (xg_273_76 lp_N (xm_228 M) (0 : Int32) v7 v6 v5 v4 v1 v2 v3).2.2.1 v1 v2 v3).2), (4, .int (xg_273_76 lp_N (xm_228 M) (0 : Int32) v7 v6 v5 v4 v1 v2 v3).2.2.1), (0, .ref 163), (1, .int v1), (2, .int v2), (3, .int v3)]) ri_273_217 rfl rfl rfl rm_273.1 (by decide) rfl ?_
        refine rs_goto (t := 53) ri_273_220 rfl ?_
        have e : xg_273_53 (n + 1) M v7 v6 v5 v4 v1 v2 v3 = xg_273_53 n (xg_273_76 lp_N (xm_228 M) (0 : Int32) v7 v6 v5 v4 v1 v2 v3).2.2.2 (v7 + (1 : Int32)) (xg_273_76 lp_N (xm_228 M) (0 : Int32) v7 v6 v5 v4 v1 v2 v3).2.1 (xg_273_190 lp_N (xg_273_76 lp_N (xm_228 M) (0 : Int32) v7 v6 v5 v4 v1 v2 v3).2.2.2 (0 : Int32) v7 (xg_273_76 lp_N (xm_228 M) (0 : Int32) v7 v6 v5 v4 v1 v2 v3).2.1 v5 (xg_273_76 lp_N (xm_228 M) (0 : Int32) v7 v6 v5 v4 v1 v2 v3).2.2.1 v1 v2 v3).2 (xg_273_76 lp_N (xm_228 M) (0 : Int32) v7 v6 v5 v4 v1 v2 v3).2.2.1 v1 v2 v3 := by rw [xg_273_53]; first | (simp only [if_neg h5, if_neg h6]; done) | rfl
        rw [e] at hk
        exact ro_w_lv (ro_sub_c rfl (ro_sub_c rfl (ro_sub_c rfl (ro_sub_c rfl (ro_sub_c rfl (ro_sub_c rfl (ro_sub_c rfl (ro_sub_c rfl (ro_sub_n rfl))))))))) (ih (xl_273_76 lp_N (xl_228 hL q6) q17)  hp hk)
theorem xl_273_53 : ∀ (n : Nat) {M : ro_Mm} {v7 : Int32} {v6 : Int32} {v5 : Int32} {v4 : Int32} {v1 : Int32} {v2 : Int32} {v3 : Int32} (hL : ro_lay M) (hp : xq_273_53 n M v7 v6 v5 v4 v1 v2 v3), ro_lay (xg_273_53 n M v7 v6 v5 v4 v1 v2 v3).2.2.2.2 := by
  intro n
  induction n with
  | zero => intro M v7 v6 v5 v4 v1 v2 v3 hL hp; exact False.elim hp
  | succ n ih =>
    intro M v7 v6 v5 v4 v1 v2 v3 hL hp
    rw [xq_273_53] at hp
    rw [xg_273_53]
    by_cases hz : (v2 / (100 : Int32)) ≤ v7
    · have hp := hp.1 hz
      rw [if_pos hz]
      exact hL
    · have hp := hp.2 hz
      rw [if_neg hz]
      by_cases hz : (M.2.1 163 1) ≤ (0 : Int32)
      · have hp := hp.1 hz
        rw [if_pos hz]
        exact hL
      · have hp := hp.2 hz
        rw [if_neg hz]
        obtain ⟨q6, hp⟩ := hp
        obtain ⟨q17, hp⟩ := hp
        obtain ⟨q20, hp⟩ := hp
        exact ih (xl_273_76 lp_N (xl_228 hL q6) q17)  hp
theorem xwI_273_53 : ∀ {n : Nat} {M : ro_Mm} {v7 : Int32} {v6 : Int32} {v5 : Int32} {v4 : Int32} {v1 : Int32} {v2 : Int32} {v3 : Int32} {c j : Nat} (n0 : c ≠ 181) (n1 : c ≠ 182) (n2 : c ≠ 179) (n3 : c ≠ 180), (xg_273_53 n M v7 v6 v5 v4 v1 v2 v3).2.2.2.2.2.1 c j = M.2.1 c j := by
  intro n
  induction n with
  | zero => intro M v7 v6 v5 v4 v1 v2 v3 c j n0 n1 n2 n3; rfl
  | succ n ih =>
    intro M v7 v6 v5 v4 v1 v2 v3 c j n0 n1 n2 n3
    rw [xg_273_53]
    by_cases hz : (v2 / (100 : Int32)) ≤ v7
    · rw [if_pos hz]
      first | done | exact rfl
    · rw [if_neg hz]
      by_cases hz : (M.2.1 163 1) ≤ (0 : Int32)
      · rw [if_pos hz]
        first | done | exact rfl
      · rw [if_neg hz]
        first | done | exact ((((ih n0 n1 n2 n3)).trans (xwI_273_76 n2 n3 n0 n1)).trans (xwI_228 n0 n1))
theorem xwJ_273_53 : ∀ {n : Nat} {M : ro_Mm} {v7 : Int32} {v6 : Int32} {v5 : Int32} {v4 : Int32} {v1 : Int32} {v2 : Int32} {v3 : Int32} {c j : Nat}, (xg_273_53 n M v7 v6 v5 v4 v1 v2 v3).2.2.2.2.2.2.1 c j = M.2.2.1 c j := by
  intro n
  induction n with
  | zero => intro M v7 v6 v5 v4 v1 v2 v3 c j; rfl
  | succ n ih =>
    intro M v7 v6 v5 v4 v1 v2 v3 c j
    rw [xg_273_53]
    by_cases hz : (v2 / (100 : Int32)) ≤ v7
    · rw [if_pos hz]
      first | done | exact rfl
    · rw [if_neg hz]
      by_cases hz : (M.2.1 163 1) ≤ (0 : Int32)
      · rw [if_pos hz]
        first | done | exact rfl
      · rw [if_neg hz]
        first | done | exact ((((ih)).trans (xwJ_273_76)).trans (xwJ_228))
/-- RefusedOnceModel.drawn(III)I -/
noncomputable def xf_273 (M : ro_Mm) (v1 : Int32) (v2 : Int32) (v3 : Int32) : Int32 := (if v2 < (0 : Int32) then (-1 : Int32) else (if (xf_195 M (v2 / (100 : Int32)) (1 : Int32) (30 : Int32)) then (if (xf_195 M (ro_irem v2 (100 : Int32)) (1 : Int32) (30 : Int32)) then (if (xf_195 M v3 (0 : Int32) (1 : Int32)) then (if v3 = (0 : Int32) then (xg_273_53 lp_N M (0 : Int32) (0 : Int32) (0 : Int32) v1 v1 v2 v3).2.2.1 else (xg_273_53 lp_N M (0 : Int32) (0 : Int32) (0 : Int32) v1 v1 v2 v3).2.1) else (-1 : Int32)) else (-1 : Int32)) else (-1 : Int32)))
noncomputable def xm_273 (M : ro_Mm) (v1 : Int32) (v2 : Int32) (v3 : Int32) : ro_Mm := (if v2 < (0 : Int32) then M else (if (xf_195 M (v2 / (100 : Int32)) (1 : Int32) (30 : Int32)) then (if (xf_195 M (ro_irem v2 (100 : Int32)) (1 : Int32) (30 : Int32)) then (if (xf_195 M v3 (0 : Int32) (1 : Int32)) then (xg_273_53 lp_N M (0 : Int32) (0 : Int32) (0 : Int32) v1 v1 v2 v3).2.2.2.2 else M) else M) else M))
def xp_273 (M : ro_Mm) (v1 : Int32) (v2 : Int32) (v3 : Int32) : Prop := ((v2 < (0 : Int32) → True) ∧ (¬ (v2 < (0 : Int32)) → (((xf_195 M (v2 / (100 : Int32)) (1 : Int32) (30 : Int32)) → (((xf_195 M (ro_irem v2 (100 : Int32)) (1 : Int32) (30 : Int32)) → (((xf_195 M v3 (0 : Int32) (1 : Int32)) → (xq_273_53 lp_N M (0 : Int32) (0 : Int32) (0 : Int32) v1 v1 v2 v3 ∧ True)) ∧ (¬ ((xf_195 M v3 (0 : Int32) (1 : Int32))) → True))) ∧ (¬ ((xf_195 M (ro_irem v2 (100 : Int32)) (1 : Int32) (30 : Int32))) → True))) ∧ (¬ ((xf_195 M (v2 / (100 : Int32)) (1 : Int32) (30 : Int32))) → True))))
theorem xs_273 {X : ro_Sx} {M : ro_Mm} {v1 : Int32} {v2 : Int32} {v3 : Int32} (hL : ro_lay M) (hp : xp_273 M v1 v2 v3) : ro_cwp X 5 273 [.ref 163, .int v1, .int v2, .int v3] M (fun v M2 => v = some (.int (xf_273 M v1 v2 v3)) ∧ M2 = xm_273 M v1 v2 v3) := by
  refine rs_begin (lv0 := [(0, .ref 163), (1, .int v1), (2, .int v2), (3, .int v3)]) (by decide) rfl (by rw [rm_273.1]; exact Nat.le_of_ble_eq_true rfl) rfl ?_
  unfold xp_273 at hp
  refine rs_iload_n ri_273_0 rfl rfl ?_
  refine rs_if_lt (t := 39) ri_273_1 rfl rfl (fun h1 => ?_) (fun h1 => ?_)
  · have hp := hp.1 h1
    refine rs_iconst (v := (-1 : Int32)) ri_273_39 rfl (by decide) ?_
    refine rs_iret ri_273_40 rm_273.2.1 (by decide) ?_
    exact ⟨by unfold xf_273; first | (simp only [if_pos h1]; done) | rfl, by unfold xm_273; first | (simp only [if_pos h1]; done) | rfl⟩
  · have hp := hp.2 h1
    refine rs_iload_n ri_273_4 rfl rfl ?_
    refine rs_bipush (v := (100 : Int32)) ri_273_5 rfl (by decide) ?_
    refine rs_idiv (r := (v2 / (100 : Int32))) ri_273_7 rfl (by decide) rfl ?_
    refine rs_iconst (v := (1 : Int32)) ri_273_8 rfl (by decide) ?_
    refine rs_bipush (v := (30 : Int32)) ri_273_9 rfl (by decide) ?_
    refine rs_stat (As := [.int (v2 / (100 : Int32)), .int (1 : Int32), .int (30 : Int32)]) (r := []) ri_273_11 rfl rm_195.2.2.2 rfl rfl rfl (Nat.le_of_ble_eq_true rfl) (by decide) (by decide) (xs_195 (X := X) hL) ?_
    rintro _ _ ⟨e1, e2⟩
    rw [e1, e2]
    show ro_w X _ 273 _ 14 [(0, .ref 163), (1, .int v1), (2, .int v2), (3, .int v3)] [.int (ro_b (xf_195 M (v2 / (100 : Int32)) (1 : Int32) (30 : Int32)))] M (0, 0)
    refine rs_ifeq_c (t := 39) ri_273_14 rfl rfl (fun h2 => ?_) (fun h2 => ?_)
    · have hp := hp.2 h2
      refine rs_iconst (v := (-1 : Int32)) ri_273_39 rfl (by decide) ?_
      refine rs_iret ri_273_40 rm_273.2.1 (by decide) ?_
      exact ⟨by unfold xf_273; first | (simp only [if_neg h1, if_neg h2]; done) | rfl, by unfold xm_273; first | (simp only [if_neg h1, if_neg h2]; done) | rfl⟩
    · have hp := hp.1 h2
      refine rs_iload_n ri_273_17 rfl rfl ?_
      refine rs_bipush (v := (100 : Int32)) ri_273_18 rfl (by decide) ?_
      refine rs_irem (r := (ro_irem v2 (100 : Int32))) ri_273_20 rfl (by decide) rfl ?_
      refine rs_iconst (v := (1 : Int32)) ri_273_21 rfl (by decide) ?_
      refine rs_bipush (v := (30 : Int32)) ri_273_22 rfl (by decide) ?_
      refine rs_stat (As := [.int (ro_irem v2 (100 : Int32)), .int (1 : Int32), .int (30 : Int32)]) (r := []) ri_273_24 rfl rm_195.2.2.2 rfl rfl rfl (Nat.le_of_ble_eq_true rfl) (by decide) (by decide) (xs_195 (X := X) hL) ?_
      rintro _ _ ⟨e1, e2⟩
      rw [e1, e2]
      show ro_w X _ 273 _ 27 [(0, .ref 163), (1, .int v1), (2, .int v2), (3, .int v3)] [.int (ro_b (xf_195 M (ro_irem v2 (100 : Int32)) (1 : Int32) (30 : Int32)))] M (0, 0)
      refine rs_ifeq_c (t := 39) ri_273_27 rfl rfl (fun h3 => ?_) (fun h3 => ?_)
      · have hp := hp.2 h3
        refine rs_iconst (v := (-1 : Int32)) ri_273_39 rfl (by decide) ?_
        refine rs_iret ri_273_40 rm_273.2.1 (by decide) ?_
        exact ⟨by unfold xf_273; first | (simp only [if_neg h1, if_pos h2, if_neg h3]; done) | rfl, by unfold xm_273; first | (simp only [if_neg h1, if_pos h2, if_neg h3]; done) | rfl⟩
      · have hp := hp.1 h3
        refine rs_iload_n ri_273_30 rfl rfl ?_
        refine rs_iconst (v := (0 : Int32)) ri_273_31 rfl (by decide) ?_
        refine rs_iconst (v := (1 : Int32)) ri_273_32 rfl (by decide) ?_
        refine rs_stat (As := [.int v3, .int (0 : Int32), .int (1 : Int32)]) (r := []) ri_273_33 rfl rm_195.2.2.2 rfl rfl rfl (Nat.le_of_ble_eq_true rfl) (by decide) (by decide) (xs_195 (X := X) hL) ?_
        rintro _ _ ⟨e1, e2⟩
        rw [e1, e2]
        show ro_w X _ 273 _ 36 [(0, .ref 163), (1, .int v1), (2, .int v2), (3, .int v3)] [.int (ro_b (xf_195 M v3 (0 : Int32) (1 : Int32)))] M (0, 0)
        refine rs_ifne_c (t := 41) ri_273_36 rfl rfl (fun h4 => ?_) (fun h4 => ?_)
        · have hp := hp.1 h4
          refine rs_iload_n ri_273_41 rfl rfl ?_
          refine rs_istore (lv2 := [(4, .int v1), (0, .ref 163), (1, .int v1), (2, .int v2), (3, .int v3)]) ri_273_42 rfl rm_273.1 (by decide) rfl ?_
          refine rs_iconst (v := (0 : Int32)) ri_273_44 rfl (by decide) ?_
          refine rs_istore (lv2 := [(5, .int (0 : Int32)), (4, .int v1), (0, .ref 163), (1, .int v1), (2, .int v2), (3, .int v3)]) ri_273_45 rfl rm_273.1 (by decide) rfl ?_
          refine rs_iconst (v := (0 : Int32)) ri_273_47 rfl (by decide) ?_
          refine rs_istore (lv2 := [(6, .int (0 : Int32)), (5, .int (0 : Int32)), (4, .int v1), (0, .ref 163), (1, .int v1), (2, .int v2), (3, .int v3)]) ri_273_48 rfl rm_273.1 (by decide) rfl ?_
          refine rs_iconst (v := (0 : Int32)) ri_273_50 rfl (by decide) ?_
          refine rs_istore (lv2 := [(7, .int (0 : Int32)), (6, .int (0 : Int32)), (5, .int (0 : Int32)), (4, .int v1), (0, .ref 163), (1, .int v1), (2, .int v2), (3, .int v3)]) ri_273_51 rfl rm_273.1 (by decide) rfl ?_
          obtain ⟨q21, hp⟩ := hp
          refine xt_273_53 lp_N hL q21 ?_
          refine rs_iload_n ri_273_223 rfl rfl ?_
          refine rs_if_ne (t := 232) ri_273_224 rfl rfl (fun h23 => ?_) (fun h23 => ?_)
          · skip
            refine rs_iload ri_273_232 rfl rfl ?_
            refine rs_iret ri_273_234 rm_273.2.1 (by decide) ?_
            exact ⟨by unfold xf_273; first | (simp only [if_neg h1, if_pos h2, if_pos h3, if_pos h4, if_neg h23]; done) | rfl, by unfold xm_273; first | (simp only [if_neg h1, if_pos h2, if_pos h3, if_pos h4, if_neg h23]; done) | rfl⟩
          · skip
            refine rs_iload ri_273_227 rfl rfl ?_
            refine rs_goto (t := 234) ri_273_229 rfl ?_
            refine rs_iret ri_273_234 rm_273.2.1 (by decide) ?_
            exact ⟨by unfold xf_273; first | (simp only [if_neg h1, if_pos h2, if_pos h3, if_pos h4, if_pos h23]; done) | rfl, by unfold xm_273; first | (simp only [if_neg h1, if_pos h2, if_pos h3, if_pos h4, if_pos h23]; done) | rfl⟩
        · have hp := hp.2 h4
          refine rs_iconst (v := (-1 : Int32)) ri_273_39 rfl (by decide) ?_
          refine rs_iret ri_273_40 rm_273.2.1 (by decide) ?_
          exact ⟨by unfold xf_273; first | (simp only [if_neg h1, if_pos h2, if_pos h3, if_neg h4]; done) | rfl, by unfold xm_273; first | (simp only [if_neg h1, if_pos h2, if_pos h3, if_neg h4]; done) | rfl⟩
theorem xl_273 {M : ro_Mm} {v1 : Int32} {v2 : Int32} {v3 : Int32} (hL : ro_lay M) (hp : xp_273 M v1 v2 v3) : ro_lay (xm_273 M v1 v2 v3) := by
  unfold xp_273 at hp
  unfold xm_273
  by_cases hz : v2 < (0 : Int32)
  · have hp := hp.1 hz
    rw [if_pos hz]
    exact hL
  · have hp := hp.2 hz
    rw [if_neg hz]
    by_cases hz : (xf_195 M (v2 / (100 : Int32)) (1 : Int32) (30 : Int32))
    · have hp := hp.1 hz
      rw [if_pos hz]
      by_cases hz : (xf_195 M (ro_irem v2 (100 : Int32)) (1 : Int32) (30 : Int32))
      · have hp := hp.1 hz
        rw [if_pos hz]
        by_cases hz : (xf_195 M v3 (0 : Int32) (1 : Int32))
        · have hp := hp.1 hz
          rw [if_pos hz]
          obtain ⟨q21, hp⟩ := hp
          by_cases hz : v3 = (0 : Int32)
          · skip
            exact (xl_273_53 lp_N hL q21)
          · skip
            exact (xl_273_53 lp_N hL q21)
        · have hp := hp.2 hz
          rw [if_neg hz]
          exact hL
      · have hp := hp.2 hz
        rw [if_neg hz]
        exact hL
    · have hp := hp.2 hz
      rw [if_neg hz]
      exact hL
theorem xwI_273 {M : ro_Mm} {v1 : Int32} {v2 : Int32} {v3 : Int32} {c j : Nat} (n0 : c ≠ 181) (n1 : c ≠ 182) (n2 : c ≠ 179) (n3 : c ≠ 180) : (xm_273 M v1 v2 v3).2.1 c j = M.2.1 c j := by
  unfold xm_273
  by_cases hz : v2 < (0 : Int32)
  · rw [if_pos hz]
    first | done | exact rfl
  · rw [if_neg hz]
    by_cases hz : (xf_195 M (v2 / (100 : Int32)) (1 : Int32) (30 : Int32))
    · rw [if_pos hz]
      by_cases hz : (xf_195 M (ro_irem v2 (100 : Int32)) (1 : Int32) (30 : Int32))
      · rw [if_pos hz]
        by_cases hz : (xf_195 M v3 (0 : Int32) (1 : Int32))
        · rw [if_pos hz]
          first | done | exact (xwI_273_53 n0 n1 n2 n3)
        · rw [if_neg hz]
          first | done | exact rfl
      · rw [if_neg hz]
        first | done | exact rfl
    · rw [if_neg hz]
      first | done | exact rfl
theorem xwJ_273 {M : ro_Mm} {v1 : Int32} {v2 : Int32} {v3 : Int32} {c j : Nat} : (xm_273 M v1 v2 v3).2.2.1 c j = M.2.2.1 c j := by
  unfold xm_273
  by_cases hz : v2 < (0 : Int32)
  · rw [if_pos hz]
    first | done | exact rfl
  · rw [if_neg hz]
    by_cases hz : (xf_195 M (v2 / (100 : Int32)) (1 : Int32) (30 : Int32))
    · rw [if_pos hz]
      by_cases hz : (xf_195 M (ro_irem v2 (100 : Int32)) (1 : Int32) (30 : Int32))
      · rw [if_pos hz]
        by_cases hz : (xf_195 M v3 (0 : Int32) (1 : Int32))
        · rw [if_pos hz]
          first | done | exact (xwJ_273_53)
        · rw [if_neg hz]
          first | done | exact rfl
      · rw [if_neg hz]
        first | done | exact rfl
    · rw [if_neg hz]
      first | done | exact rfl
/-- RefusedOnce.later(IIII)I -/
noncomputable def xf_64 (M : ro_Mm) (v1 : Int32) (v2 : Int32) (v3 : Int32) (v4 : Int32) : Int32 := (if ro_bs v1 then (if (xf_13 M v2 (0 : Int32) (20 : Int32)) then (if (xf_29 M v3) then (if (xf_13 M v4 (0 : Int32) (2 : Int32)) then (if (xf_22 M (ro_sc v1)) then (if v4 = (2 : Int32) then (xf_37 (xm_67 (xm_66 M (ro_sc v1)) v2) 36 v3) else (if v4 = (0 : Int32) then (xf_31 (xm_67 (xm_66 M (ro_sc v1)) v2) 36 v3) else (xf_32 (xm_67 (xm_66 M (ro_sc v1)) v2) 36 v3))) else (xf_65 M (ro_sc v1))) else (-1 : Int32)) else (-1 : Int32)) else (-1 : Int32)) else (-1 : Int32))
noncomputable def xm_64 (M : ro_Mm) (v1 : Int32) (v2 : Int32) (v3 : Int32) (v4 : Int32) : ro_Mm := (if ro_bs v1 then (if (xf_13 M v2 (0 : Int32) (20 : Int32)) then (if (xf_29 M v3) then (if (xf_13 M v4 (0 : Int32) (2 : Int32)) then (if (xf_22 M (ro_sc v1)) then (xm_67 (xm_66 M (ro_sc v1)) v2) else M) else M) else M) else M) else M)
def xp_64 (M : ro_Mm) (v1 : Int32) (v2 : Int32) (v3 : Int32) (v4 : Int32) : Prop := ((ro_bs v1 → (((xf_13 M v2 (0 : Int32) (20 : Int32)) → (((xf_29 M v3) → (((xf_13 M v4 (0 : Int32) (2 : Int32)) → (((xf_22 M (ro_sc v1)) → (xp_66 M (ro_sc v1) ∧ (xp_67 (xm_66 M (ro_sc v1)) v2 ∧ True))) ∧ (¬ ((xf_22 M (ro_sc v1))) → True))) ∧ (¬ ((xf_13 M v4 (0 : Int32) (2 : Int32))) → True))) ∧ (¬ ((xf_29 M v3)) → True))) ∧ (¬ ((xf_13 M v2 (0 : Int32) (20 : Int32))) → True))) ∧ (¬ (ro_bs v1) → True))
theorem xs_64 {X : ro_Sx} {M : ro_Mm} {v1 : Int32} {v2 : Int32} {v3 : Int32} {v4 : Int32} (hL : ro_lay M) (hp : xp_64 M v1 v2 v3 v4) : ro_cwp X 6 64 [.ref 4, .int v1, .int v2, .int v3, .int v4] M (fun v M2 => v = some (.int (xf_64 M v1 v2 v3 v4)) ∧ M2 = xm_64 M v1 v2 v3 v4) := by
  refine rs_begin (lv0 := [(0, .ref 4), (1, .int v1), (2, .int v2), (3, .int v3), (4, .int v4)]) (by decide) rfl (by rw [rm_64.1]; exact Nat.le_of_ble_eq_true rfl) rfl ?_
  unfold xp_64 at hp
  refine rs_aload_n ri_64_0 rfl rfl ?_
  refine rs_iload_n ri_64_1 rfl rfl ?_
  by_cases h1 : ro_bs v1 = true
  · have hp := hp.1 h1
    refine rs_virt (As := [.int v1]) (r := []) ri_64_2 rfl (by decide) rm_20.2.2.2 rm_20.2.2.1 rfl rfl rfl (by decide) (ro_kf (kd_4 hL)) (Nat.le_of_ble_eq_true rfl) (by decide) (by decide) (xs_20_t hL h1) ?_
    rintro _ _ ⟨e1, e2⟩
    rw [e1, e2]
    show ro_w X _ 64 _ 5 [(0, .ref 4), (1, .int v1), (2, .int v2), (3, .int v3), (4, .int v4)] [.ref (ro_sc v1)] M (0, 0)
    refine rs_astore (lv2 := [(5, .ref (ro_sc v1)), (0, .ref 4), (1, .int v1), (2, .int v2), (3, .int v3), (4, .int v4)]) ri_64_5 rfl rm_64.1 (by decide) rfl ?_
    refine rs_aload ri_64_7 rfl rfl ?_
    refine rs_ifnull (t := 43) ri_64_9 rfl rfl ?_
    refine rs_iload_n ri_64_12 rfl rfl ?_
    refine rs_iconst (v := (0 : Int32)) ri_64_13 rfl (by decide) ?_
    refine rs_bipush (v := (20 : Int32)) ri_64_14 rfl (by decide) ?_
    refine rs_stat (As := [.int v2, .int (0 : Int32), .int (20 : Int32)]) (r := []) ri_64_16 rfl rm_13.2.2.2 rfl rfl rfl (Nat.le_of_ble_eq_true rfl) (by decide) (by decide) (xs_13 (X := X) hL) ?_
    rintro _ _ ⟨e1, e2⟩
    rw [e1, e2]
    show ro_w X _ 64 _ 19 [(5, .ref (ro_sc v1)), (0, .ref 4), (1, .int v1), (2, .int v2), (3, .int v3), (4, .int v4)] [.int (ro_b (xf_13 M v2 (0 : Int32) (20 : Int32)))] M (0, 0)
    refine rs_ifeq_c (t := 43) ri_64_19 rfl rfl (fun h2 => ?_) (fun h2 => ?_)
    · have hp := hp.2 h2
      refine rs_iconst (v := (-1 : Int32)) ri_64_43 rfl (by decide) ?_
      refine rs_iret ri_64_44 rm_64.2.1 (by decide) ?_
      exact ⟨by unfold xf_64; first | (simp only [if_pos h1, if_neg h2]; done) | rfl, by unfold xm_64; first | (simp only [if_pos h1, if_neg h2]; done) | rfl⟩
    · have hp := hp.1 h2
      refine rs_aload_n ri_64_22 rfl rfl ?_
      refine rs_gf (v := .ref 5) ri_64_23 rfl (by decide) (ro_kf (kd_4 hL)) rfl (rf_4_0 hL) ?_
      refine rs_iload_n ri_64_26 rfl rfl ?_
      refine rs_virt (As := [.int v3]) (r := []) ri_64_27 rfl (by decide) rm_29.2.2.2 rm_29.2.2.1 rfl rfl rfl (by decide) (ro_kf (kd_5 hL)) (Nat.le_of_ble_eq_true rfl) (by decide) (by decide) (xs_29 (X := X) hL) ?_
      rintro _ _ ⟨e1, e2⟩
      rw [e1, e2]
      show ro_w X _ 64 _ 30 [(5, .ref (ro_sc v1)), (0, .ref 4), (1, .int v1), (2, .int v2), (3, .int v3), (4, .int v4)] [.int (ro_b (xf_29 M v3))] M (0, 0)
      refine rs_ifeq_c (t := 43) ri_64_30 rfl rfl (fun h3 => ?_) (fun h3 => ?_)
      · have hp := hp.2 h3
        refine rs_iconst (v := (-1 : Int32)) ri_64_43 rfl (by decide) ?_
        refine rs_iret ri_64_44 rm_64.2.1 (by decide) ?_
        exact ⟨by unfold xf_64; first | (simp only [if_pos h1, if_pos h2, if_neg h3]; done) | rfl, by unfold xm_64; first | (simp only [if_pos h1, if_pos h2, if_neg h3]; done) | rfl⟩
      · have hp := hp.1 h3
        refine rs_iload ri_64_33 rfl rfl ?_
        refine rs_iconst (v := (0 : Int32)) ri_64_35 rfl (by decide) ?_
        refine rs_iconst (v := (2 : Int32)) ri_64_36 rfl (by decide) ?_
        refine rs_stat (As := [.int v4, .int (0 : Int32), .int (2 : Int32)]) (r := []) ri_64_37 rfl rm_13.2.2.2 rfl rfl rfl (Nat.le_of_ble_eq_true rfl) (by decide) (by decide) (xs_13 (X := X) hL) ?_
        rintro _ _ ⟨e1, e2⟩
        rw [e1, e2]
        show ro_w X _ 64 _ 40 [(5, .ref (ro_sc v1)), (0, .ref 4), (1, .int v1), (2, .int v2), (3, .int v3), (4, .int v4)] [.int (ro_b (xf_13 M v4 (0 : Int32) (2 : Int32)))] M (0, 0)
        refine rs_ifne_c (t := 45) ri_64_40 rfl rfl (fun h4 => ?_) (fun h4 => ?_)
        · have hp := hp.1 h4
          refine rs_aload ri_64_45 rfl rfl ?_
          refine rs_virt (As := []) (r := []) ri_64_47 rfl (by decide) rm_22.2.2.2 rm_22.2.2.1 rfl rfl rfl (ro_is4 (ro_sc_is v1)) (ro_kf (is_kd hL (ro_sc_is v1))) (Nat.le_of_ble_eq_true rfl) (by decide) (by decide) (xs_22 (X := X) hL (ro_sc_is v1)) ?_
          rintro _ _ ⟨e1, e2⟩
          rw [e1, e2]
          show ro_w X _ 64 _ 50 [(5, .ref (ro_sc v1)), (0, .ref 4), (1, .int v1), (2, .int v2), (3, .int v3), (4, .int v4)] [.int (ro_b (xf_22 M (ro_sc v1)))] M (0, 0)
          refine rs_ifne_c (t := 59) ri_64_50 rfl rfl (fun h5 => ?_) (fun h5 => ?_)
          · have hp := hp.1 h5
            refine rs_aload_n ri_64_59 rfl rfl ?_
            refine rs_gf (v := .ref 35) ri_64_60 rfl (by decide) (ro_kf (kd_4 hL)) rfl (rf_4_3 hL) ?_
            refine rs_aload ri_64_63 rfl rfl ?_
            obtain ⟨q5, hp⟩ := hp
            refine rs_virt (As := [.ref (ro_sc v1)]) (r := []) ri_64_65 rfl (by decide) rm_66.2.2.2 rm_66.2.2.1 rfl rfl rfl (by decide) (ro_kf (kd_35 hL)) (Nat.le_of_ble_eq_true rfl) (by decide) (by decide) (xs_66 (X := X) hL (ro_sc_is v1) q5) ?_
            rintro _ _ ⟨e1, e2⟩
            rw [e1, e2]
            show ro_w X _ 64 _ 68 [(5, .ref (ro_sc v1)), (0, .ref 4), (1, .int v1), (2, .int v2), (3, .int v3), (4, .int v4)] [] (xm_66 M (ro_sc v1)) (0, 0)
            refine rs_aload_n ri_64_68 rfl rfl ?_
            refine rs_gf (v := .ref 35) ri_64_69 rfl (by decide) (ro_kf (kd_4 (xl_66 hL (ro_sc_is v1) q5))) rfl (rf_4_3 (xl_66 hL (ro_sc_is v1) q5)) ?_
            refine rs_iload_n ri_64_72 rfl rfl ?_
            obtain ⟨q6, hp⟩ := hp
            refine rs_virt (As := [.int v2]) (r := []) ri_64_73 rfl (by decide) rm_67.2.2.2 rm_67.2.2.1 rfl rfl rfl (by decide) (ro_kf (kd_35 (xl_66 hL (ro_sc_is v1) q5))) (Nat.le_of_ble_eq_true rfl) (by decide) (by decide) (xs_67 (X := X) (xl_66 hL (ro_sc_is v1) q5) q6) ?_
            rintro _ _ ⟨e1, e2⟩
            rw [e1, e2]
            show ro_w X _ 64 _ 76 [(5, .ref (ro_sc v1)), (0, .ref 4), (1, .int v1), (2, .int v2), (3, .int v3), (4, .int v4)] [] (xm_67 (xm_66 M (ro_sc v1)) v2) (0, 0)
            refine rs_iload ri_64_76 rfl rfl ?_
            refine rs_iconst (v := (2 : Int32)) ri_64_78 rfl (by decide) ?_
            refine rs_icmp_ne (t := 98) ri_64_79 rfl rfl (fun h8 => ?_) (fun h8 => ?_)
            · skip
              refine rs_iload ri_64_98 rfl rfl ?_
              refine rs_if_ne (t := 117) ri_64_100 rfl rfl (fun h9 => ?_) (fun h9 => ?_)
              · skip
                refine rs_aload_n ri_64_117 rfl rfl ?_
                refine rs_gf (v := .ref 35) ri_64_118 rfl (by decide) (ro_kf (kd_4 (xl_67 (xl_66 hL (ro_sc_is v1) q5) q6))) rfl (rf_4_3 (xl_67 (xl_66 hL (ro_sc_is v1) q5) q6)) ?_
                refine rs_gf (v := .ref 36) ri_64_121 rfl (by decide) (ro_kf (kd_35 (xl_67 (xl_66 hL (ro_sc_is v1) q5) q6))) rfl (rf_35_2 (xl_67 (xl_66 hL (ro_sc_is v1) q5) q6)) ?_
                refine rs_iload_n ri_64_124 rfl rfl ?_
                refine rs_virt (As := [.int v3]) (r := []) ri_64_125 rfl (by decide) rm_32.2.2.2 rm_32.2.2.1 rfl rfl rfl (by decide) (ro_kf (kd_36 (xl_67 (xl_66 hL (ro_sc_is v1) q5) q6))) (Nat.le_of_ble_eq_true rfl) (by decide) (by decide) (xs_32 (X := X) (xl_67 (xl_66 hL (ro_sc_is v1) q5) q6) (by unfold ro_ip; decide)) ?_
                rintro _ _ ⟨e1, e2⟩
                rw [e1, e2]
                show ro_w X _ 64 _ 128 [(5, .ref (ro_sc v1)), (0, .ref 4), (1, .int v1), (2, .int v2), (3, .int v3), (4, .int v4)] [.int (xf_32 (xm_67 (xm_66 M (ro_sc v1)) v2) 36 v3)] (xm_67 (xm_66 M (ro_sc v1)) v2) (0, 0)
                refine rs_iret ri_64_128 rm_64.2.1 (by decide) ?_
                exact ⟨by unfold xf_64; first | (simp only [if_pos h1, if_pos h2, if_pos h3, if_pos h4, if_pos h5, if_neg h8, if_neg h9]; done) | rfl, by unfold xm_64; first | (simp only [if_pos h1, if_pos h2, if_pos h3, if_pos h4, if_pos h5, if_neg h8, if_neg h9]; done) | rfl⟩
              · skip
                refine rs_aload_n ri_64_103 rfl rfl ?_
                refine rs_gf (v := .ref 35) ri_64_104 rfl (by decide) (ro_kf (kd_4 (xl_67 (xl_66 hL (ro_sc_is v1) q5) q6))) rfl (rf_4_3 (xl_67 (xl_66 hL (ro_sc_is v1) q5) q6)) ?_
                refine rs_gf (v := .ref 36) ri_64_107 rfl (by decide) (ro_kf (kd_35 (xl_67 (xl_66 hL (ro_sc_is v1) q5) q6))) rfl (rf_35_2 (xl_67 (xl_66 hL (ro_sc_is v1) q5) q6)) ?_
                refine rs_iload_n ri_64_110 rfl rfl ?_
                refine rs_virt (As := [.int v3]) (r := []) ri_64_111 rfl (by decide) rm_31.2.2.2 rm_31.2.2.1 rfl rfl rfl (by decide) (ro_kf (kd_36 (xl_67 (xl_66 hL (ro_sc_is v1) q5) q6))) (Nat.le_of_ble_eq_true rfl) (by decide) (by decide) (xs_31 (X := X) (xl_67 (xl_66 hL (ro_sc_is v1) q5) q6) (by unfold ro_ip; decide)) ?_
                rintro _ _ ⟨e1, e2⟩
                rw [e1, e2]
                show ro_w X _ 64 _ 114 [(5, .ref (ro_sc v1)), (0, .ref 4), (1, .int v1), (2, .int v2), (3, .int v3), (4, .int v4)] [.int (xf_31 (xm_67 (xm_66 M (ro_sc v1)) v2) 36 v3)] (xm_67 (xm_66 M (ro_sc v1)) v2) (0, 0)
                refine rs_goto (t := 128) ri_64_114 rfl ?_
                refine rs_iret ri_64_128 rm_64.2.1 (by decide) ?_
                exact ⟨by unfold xf_64; first | (simp only [if_pos h1, if_pos h2, if_pos h3, if_pos h4, if_pos h5, if_neg h8, if_pos h9]; done) | rfl, by unfold xm_64; first | (simp only [if_pos h1, if_pos h2, if_pos h3, if_pos h4, if_pos h5, if_neg h8, if_pos h9]; done) | rfl⟩
            · skip
              refine rs_aload_n ri_64_82 rfl rfl ?_
              refine rs_gf (v := .ref 5) ri_64_83 rfl (by decide) (ro_kf (kd_4 (xl_67 (xl_66 hL (ro_sc_is v1) q5) q6))) rfl (rf_4_0 (xl_67 (xl_66 hL (ro_sc_is v1) q5) q6)) ?_
              refine rs_aload_n ri_64_86 rfl rfl ?_
              refine rs_gf (v := .ref 35) ri_64_87 rfl (by decide) (ro_kf (kd_4 (xl_67 (xl_66 hL (ro_sc_is v1) q5) q6))) rfl (rf_4_3 (xl_67 (xl_66 hL (ro_sc_is v1) q5) q6)) ?_
              refine rs_gf (v := .ref 36) ri_64_90 rfl (by decide) (ro_kf (kd_35 (xl_67 (xl_66 hL (ro_sc_is v1) q5) q6))) rfl (rf_35_2 (xl_67 (xl_66 hL (ro_sc_is v1) q5) q6)) ?_
              refine rs_iload_n ri_64_93 rfl rfl ?_
              refine rs_virt (As := [.ref 36, .int v3]) (r := []) ri_64_94 rfl (by decide) rm_37.2.2.2 rm_37.2.2.1 rfl rfl rfl (by decide) (ro_kf (kd_5 (xl_67 (xl_66 hL (ro_sc_is v1) q5) q6))) (Nat.le_of_ble_eq_true rfl) (by decide) (by decide) (xs_37 (X := X) (xl_67 (xl_66 hL (ro_sc_is v1) q5) q6) (by unfold ro_ip; decide)) ?_
              rintro _ _ ⟨e1, e2⟩
              rw [e1, e2]
              show ro_w X _ 64 _ 97 [(5, .ref (ro_sc v1)), (0, .ref 4), (1, .int v1), (2, .int v2), (3, .int v3), (4, .int v4)] [.int (xf_37 (xm_67 (xm_66 M (ro_sc v1)) v2) 36 v3)] (xm_67 (xm_66 M (ro_sc v1)) v2) (0, 0)
              refine rs_iret ri_64_97 rm_64.2.1 (by decide) ?_
              exact ⟨by unfold xf_64; first | (simp only [if_pos h1, if_pos h2, if_pos h3, if_pos h4, if_pos h5, if_pos h8]; done) | rfl, by unfold xm_64; first | (simp only [if_pos h1, if_pos h2, if_pos h3, if_pos h4, if_pos h5, if_pos h8]; done) | rfl⟩
          · have hp := hp.2 h5
            refine rs_aload ri_64_53 rfl rfl ?_
            refine rs_virt (As := []) (r := []) ri_64_55 rfl (by decide) rm_65.2.2.2 rm_65.2.2.1 rfl rfl rfl (ro_is4 (ro_sc_is v1)) (ro_kf (is_kd hL (ro_sc_is v1))) (Nat.le_of_ble_eq_true rfl) (by decide) (by decide) (xs_65 (X := X) hL (ro_sc_is v1)) ?_
            rintro _ _ ⟨e1, e2⟩
            rw [e1, e2]
            show ro_w X _ 64 _ 58 [(5, .ref (ro_sc v1)), (0, .ref 4), (1, .int v1), (2, .int v2), (3, .int v3), (4, .int v4)] [.int (xf_65 M (ro_sc v1))] M (0, 0)
            refine rs_iret ri_64_58 rm_64.2.1 (by decide) ?_
            exact ⟨by unfold xf_64; first | (simp only [if_pos h1, if_pos h2, if_pos h3, if_pos h4, if_neg h5]; done) | rfl, by unfold xm_64; first | (simp only [if_pos h1, if_pos h2, if_pos h3, if_pos h4, if_neg h5]; done) | rfl⟩
        · have hp := hp.2 h4
          refine rs_iconst (v := (-1 : Int32)) ri_64_43 rfl (by decide) ?_
          refine rs_iret ri_64_44 rm_64.2.1 (by decide) ?_
          exact ⟨by unfold xf_64; first | (simp only [if_pos h1, if_pos h2, if_pos h3, if_neg h4]; done) | rfl, by unfold xm_64; first | (simp only [if_pos h1, if_pos h2, if_pos h3, if_neg h4]; done) | rfl⟩
  · have hp := hp.2 h1
    refine rs_virt (As := [.int v1]) (r := []) ri_64_2 rfl (by decide) rm_20.2.2.2 rm_20.2.2.1 rfl rfl rfl (by decide) (ro_kf (kd_4 hL)) (Nat.le_of_ble_eq_true rfl) (by decide) (by decide) (xs_20_f hL h1) ?_
    rintro _ _ ⟨e1, e2⟩
    rw [e1, e2]
    show ro_w X _ 64 _ 5 [(0, .ref 4), (1, .int v1), (2, .int v2), (3, .int v3), (4, .int v4)] [.null] M (0, 0)
    refine rs_astoreN (lv2 := [(5, .null), (0, .ref 4), (1, .int v1), (2, .int v2), (3, .int v3), (4, .int v4)]) ri_64_5 rfl rm_64.1 (by decide) rfl ?_
    refine rs_aloadN ri_64_7 rfl rfl ?_
    refine rs_ifnullN (t := 43) ri_64_9 rfl ?_
    refine rs_iconst (v := (-1 : Int32)) ri_64_43 rfl (by decide) ?_
    refine rs_iret ri_64_44 rm_64.2.1 (by decide) ?_
    exact ⟨by unfold xf_64; first | (simp only [if_neg h1]; done) | rfl, by unfold xm_64; first | (simp only [if_neg h1]; done) | rfl⟩
theorem xl_64 {M : ro_Mm} {v1 : Int32} {v2 : Int32} {v3 : Int32} {v4 : Int32} (hL : ro_lay M) (hp : xp_64 M v1 v2 v3 v4) : ro_lay (xm_64 M v1 v2 v3 v4) := by
  unfold xp_64 at hp
  unfold xm_64
  by_cases hz : ro_bs v1
  · have hp := hp.1 hz
    rw [if_pos hz]
    by_cases hz : (xf_13 M v2 (0 : Int32) (20 : Int32))
    · have hp := hp.1 hz
      rw [if_pos hz]
      by_cases hz : (xf_29 M v3)
      · have hp := hp.1 hz
        rw [if_pos hz]
        by_cases hz : (xf_13 M v4 (0 : Int32) (2 : Int32))
        · have hp := hp.1 hz
          rw [if_pos hz]
          by_cases hz : (xf_22 M (ro_sc v1))
          · have hp := hp.1 hz
            rw [if_pos hz]
            obtain ⟨q5, hp⟩ := hp
            obtain ⟨q6, hp⟩ := hp
            by_cases hz : v4 = (2 : Int32)
            · skip
              exact (xl_67 (xl_66 hL (ro_sc_is v1) q5) q6)
            · skip
              by_cases hz : v4 = (0 : Int32)
              · skip
                exact (xl_67 (xl_66 hL (ro_sc_is v1) q5) q6)
              · skip
                exact (xl_67 (xl_66 hL (ro_sc_is v1) q5) q6)
          · have hp := hp.2 hz
            rw [if_neg hz]
            exact hL
        · have hp := hp.2 hz
          rw [if_neg hz]
          exact hL
      · have hp := hp.2 hz
        rw [if_neg hz]
        exact hL
    · have hp := hp.2 hz
      rw [if_neg hz]
      exact hL
  · have hp := hp.2 hz
    rw [if_neg hz]
    exact hL
theorem xwI_64 {M : ro_Mm} {v1 : Int32} {v2 : Int32} {v3 : Int32} {v4 : Int32} {c j : Nat} (n0 : c ≠ 35) (n1 : c ≠ 39) (n2 : c ≠ 40) (n3 : c ≠ 41) (n4 : c ≠ 37) (n5 : c ≠ 38) (n6 : c ≠ 21) (n7 : c ≠ 16) (n8 : c ≠ 20) : (xm_64 M v1 v2 v3 v4).2.1 c j = M.2.1 c j := by
  unfold xm_64
  by_cases hz : ro_bs v1
  · rw [if_pos hz]
    by_cases hz : (xf_13 M v2 (0 : Int32) (20 : Int32))
    · rw [if_pos hz]
      by_cases hz : (xf_29 M v3)
      · rw [if_pos hz]
        by_cases hz : (xf_13 M v4 (0 : Int32) (2 : Int32))
        · rw [if_pos hz]
          by_cases hz : (xf_22 M (ro_sc v1))
          · rw [if_pos hz]
            first | done | exact (((xwI_67 n4 n5 n0 n6 n7 n8)).trans (xwI_66 n0 n1 n2 n3))
          · rw [if_neg hz]
            first | done | exact rfl
        · rw [if_neg hz]
          first | done | exact rfl
      · rw [if_neg hz]
        first | done | exact rfl
    · rw [if_neg hz]
      first | done | exact rfl
  · rw [if_neg hz]
    first | done | exact rfl
theorem xwJ_64 {M : ro_Mm} {v1 : Int32} {v2 : Int32} {v3 : Int32} {v4 : Int32} {c j : Nat} : (xm_64 M v1 v2 v3 v4).2.2.1 c j = M.2.2.1 c j := by
  unfold xm_64
  by_cases hz : ro_bs v1
  · rw [if_pos hz]
    by_cases hz : (xf_13 M v2 (0 : Int32) (20 : Int32))
    · rw [if_pos hz]
      by_cases hz : (xf_29 M v3)
      · rw [if_pos hz]
        by_cases hz : (xf_13 M v4 (0 : Int32) (2 : Int32))
        · rw [if_pos hz]
          by_cases hz : (xf_22 M (ro_sc v1))
          · rw [if_pos hz]
            first | done | exact (((xwJ_67)).trans (xwJ_66))
          · rw [if_neg hz]
            first | done | exact rfl
        · rw [if_neg hz]
          first | done | exact rfl
      · rw [if_neg hz]
        first | done | exact rfl
    · rw [if_neg hz]
      first | done | exact rfl
  · rw [if_neg hz]
    first | done | exact rfl
/-- RefusedOnce$Chances.justSoMany(IIII)V -/
noncomputable def xm_96 (M : ro_Mm) (v1 : Int32) (v2 : Int32) (v3 : Int32) (v4 : Int32) : ro_Mm := (if v4 < (0 : Int32) then (xm_100 (xm_97 M v1 v2 v3) (0 : Int64) (xf_99 (xm_97 M v1 v2 v3) v3)) else (if (9 : Int32) ≤ v4 then (xm_100 (xm_97 M v1 v2 v3) (0 : Int64) (xf_99 (xm_97 M v1 v2 v3) v3)) else (xm_100 (xm_97 M v1 v2 v3) ((xm_97 M v1 v2 v3).2.2.1 52 (v4.toNatClampNeg)) (xf_99 (xm_97 M v1 v2 v3) v3))))
def xp_96 (M : ro_Mm) (v1 : Int32) (v2 : Int32) (v3 : Int32) (v4 : Int32) : Prop := (xp_97 M v1 v2 v3 ∧ ((v4 < (0 : Int32) → (xp_99 (xm_97 M v1 v2 v3) v3 ∧ (xp_100 (xm_97 M v1 v2 v3) (0 : Int64) (xf_99 (xm_97 M v1 v2 v3) v3) ∧ True))) ∧ (¬ (v4 < (0 : Int32)) → (((9 : Int32) ≤ v4 → (xp_99 (xm_97 M v1 v2 v3) v3 ∧ (xp_100 (xm_97 M v1 v2 v3) (0 : Int64) (xf_99 (xm_97 M v1 v2 v3) v3) ∧ True))) ∧ (¬ ((9 : Int32) ≤ v4) → (xp_99 (xm_97 M v1 v2 v3) v3 ∧ (xp_100 (xm_97 M v1 v2 v3) ((xm_97 M v1 v2 v3).2.2.1 52 (v4.toNatClampNeg)) (xf_99 (xm_97 M v1 v2 v3) v3) ∧ True)))))))
theorem xs_96 {X : ro_Sx} {M : ro_Mm} {v1 : Int32} {v2 : Int32} {v3 : Int32} {v4 : Int32} (hL : ro_lay M) (hp : xp_96 M v1 v2 v3 v4) : ro_cwp X 6 96 [.ref 48, .int v1, .int v2, .int v3, .int v4] M (fun v M2 => v = none ∧ M2 = xm_96 M v1 v2 v3 v4) := by
  refine rs_begin (lv0 := [(0, .ref 48), (1, .int v1), (2, .int v2), (3, .int v3), (4, .int v4)]) (by decide) rfl (by rw [rm_96.1]; exact Nat.le_of_ble_eq_true rfl) rfl ?_
  unfold xp_96 at hp
  refine rs_aload_n ri_96_0 rfl rfl ?_
  refine rs_iload_n ri_96_1 rfl rfl ?_
  refine rs_iload_n ri_96_2 rfl rfl ?_
  refine rs_iload_n ri_96_3 rfl rfl ?_
  obtain ⟨q0, hp⟩ := hp
  refine rs_virt (As := [.int v1, .int v2, .int v3]) (r := []) ri_96_4 rfl (by decide) rm_97.2.2.2 rm_97.2.2.1 rfl rfl rfl (by decide) (ro_kf (kd_48 hL)) (Nat.le_of_ble_eq_true rfl) (by decide) (by decide) (xs_97 (X := X) hL q0) ?_
  rintro _ _ ⟨e1, e2⟩
  rw [e1, e2]
  show ro_w X _ 96 _ 7 [(0, .ref 48), (1, .int v1), (2, .int v2), (3, .int v3), (4, .int v4)] [] (xm_97 M v1 v2 v3) (0, 0)
  refine rs_aload_n ri_96_7 rfl rfl ?_
  refine rs_iload ri_96_8 rfl rfl ?_
  refine rs_if_lt (t := 33) ri_96_10 rfl rfl (fun h2 => ?_) (fun h2 => ?_)
  · have hp := hp.1 h2
    refine rs_lconst (v := (0 : Int64)) ri_96_33 rfl rfl ?_
    refine rs_iload_n ri_96_34 rfl rfl ?_
    obtain ⟨q2, hp⟩ := hp
    refine rs_stat (As := [.int v3]) (r := [.long (0 : Int64), .ref 48]) ri_96_35 rfl rm_99.2.2.2 rfl rfl rfl (Nat.le_of_ble_eq_true rfl) (by decide) (by decide) (xs_99 (X := X) (xl_97 hL q0) q2) ?_
    rintro _ _ ⟨e1, e2⟩
    rw [e1, e2]
    show ro_w X _ 96 _ 38 [(0, .ref 48), (1, .int v1), (2, .int v2), (3, .int v3), (4, .int v4)] [.long (xf_99 (xm_97 M v1 v2 v3) v3), .long (0 : Int64), .ref 48] (xm_97 M v1 v2 v3) (0, 0)
    obtain ⟨q3, hp⟩ := hp
    refine rs_virt (As := [.long (0 : Int64), .long (xf_99 (xm_97 M v1 v2 v3) v3)]) (r := []) ri_96_38 rfl (by decide) rm_100.2.2.2 rm_100.2.2.1 rfl rfl rfl (by decide) (ro_kf (kd_48 (xl_97 hL q0))) (Nat.le_of_ble_eq_true rfl) (by decide) (by decide) (xs_100 (X := X) (xl_97 hL q0) q3) ?_
    rintro _ _ ⟨e1, e2⟩
    rw [e1, e2]
    show ro_w X _ 96 _ 41 [(0, .ref 48), (1, .int v1), (2, .int v2), (3, .int v3), (4, .int v4)] [] (xm_100 (xm_97 M v1 v2 v3) (0 : Int64) (xf_99 (xm_97 M v1 v2 v3) v3)) (0, 0)
    refine rs_ret ri_96_41 rm_96.2.1 (by decide) ?_
    exact ⟨by rfl, by unfold xm_96; first | (simp only [if_pos h2]; done) | rfl⟩
  · have hp := hp.2 h2
    refine rs_iload ri_96_13 rfl rfl ?_
    refine rs_aload_n ri_96_15 rfl rfl ?_
    refine rs_gf (v := .ref 52) ri_96_16 rfl (by decide) (ro_kf (kd_48 (xl_97 hL q0))) rfl (rf_48_3 (xl_97 hL q0)) ?_
    refine rs_len (v := (9 : Int32)) ri_96_19 rfl (by decide) (kd_52 (xl_97 hL q0)) (by decide) rfl ?_
    refine rs_icmp_ge (t := 33) ri_96_20 rfl rfl (fun h5 => ?_) (fun h5 => ?_)
    · have hp := hp.1 h5
      refine rs_lconst (v := (0 : Int64)) ri_96_33 rfl rfl ?_
      refine rs_iload_n ri_96_34 rfl rfl ?_
      obtain ⟨q5, hp⟩ := hp
      refine rs_stat (As := [.int v3]) (r := [.long (0 : Int64), .ref 48]) ri_96_35 rfl rm_99.2.2.2 rfl rfl rfl (Nat.le_of_ble_eq_true rfl) (by decide) (by decide) (xs_99 (X := X) (xl_97 hL q0) q5) ?_
      rintro _ _ ⟨e1, e2⟩
      rw [e1, e2]
      show ro_w X _ 96 _ 38 [(0, .ref 48), (1, .int v1), (2, .int v2), (3, .int v3), (4, .int v4)] [.long (xf_99 (xm_97 M v1 v2 v3) v3), .long (0 : Int64), .ref 48] (xm_97 M v1 v2 v3) (0, 0)
      obtain ⟨q6, hp⟩ := hp
      refine rs_virt (As := [.long (0 : Int64), .long (xf_99 (xm_97 M v1 v2 v3) v3)]) (r := []) ri_96_38 rfl (by decide) rm_100.2.2.2 rm_100.2.2.1 rfl rfl rfl (by decide) (ro_kf (kd_48 (xl_97 hL q0))) (Nat.le_of_ble_eq_true rfl) (by decide) (by decide) (xs_100 (X := X) (xl_97 hL q0) q6) ?_
      rintro _ _ ⟨e1, e2⟩
      rw [e1, e2]
      show ro_w X _ 96 _ 41 [(0, .ref 48), (1, .int v1), (2, .int v2), (3, .int v3), (4, .int v4)] [] (xm_100 (xm_97 M v1 v2 v3) (0 : Int64) (xf_99 (xm_97 M v1 v2 v3) v3)) (0, 0)
      refine rs_ret ri_96_41 rm_96.2.1 (by decide) ?_
      exact ⟨by rfl, by unfold xm_96; first | (simp only [if_neg h2, if_pos h5]; done) | rfl⟩
    · have hp := hp.2 h5
      refine rs_aload_n ri_96_23 rfl rfl ?_
      refine rs_gf (v := .ref 52) ri_96_24 rfl (by decide) (ro_kf (kd_48 (xl_97 hL q0))) rfl (rf_48_3 (xl_97 hL q0)) ?_
      refine rs_iload ri_96_27 rfl rfl ?_
      refine rs_lald (v := ((xm_97 M v1 v2 v3).2.2.1 52 (v4.toNatClampNeg))) ri_96_29 rfl (by decide) (kd_52 (xl_97 hL q0)) (vp_in_iff.mpr ⟨(ro_lo1 h2), (ro_hi2 h5 (by decide))⟩) rfl ?_
      refine rs_goto (t := 34) ri_96_30 rfl ?_
      refine rs_iload_n ri_96_34 rfl rfl ?_
      obtain ⟨q7, hp⟩ := hp
      refine rs_stat (As := [.int v3]) (r := [.long ((xm_97 M v1 v2 v3).2.2.1 52 (v4.toNatClampNeg)), .ref 48]) ri_96_35 rfl rm_99.2.2.2 rfl rfl rfl (Nat.le_of_ble_eq_true rfl) (by decide) (by decide) (xs_99 (X := X) (xl_97 hL q0) q7) ?_
      rintro _ _ ⟨e1, e2⟩
      rw [e1, e2]
      show ro_w X _ 96 _ 38 [(0, .ref 48), (1, .int v1), (2, .int v2), (3, .int v3), (4, .int v4)] [.long (xf_99 (xm_97 M v1 v2 v3) v3), .long ((xm_97 M v1 v2 v3).2.2.1 52 (v4.toNatClampNeg)), .ref 48] (xm_97 M v1 v2 v3) (0, 0)
      obtain ⟨q8, hp⟩ := hp
      refine rs_virt (As := [.long ((xm_97 M v1 v2 v3).2.2.1 52 (v4.toNatClampNeg)), .long (xf_99 (xm_97 M v1 v2 v3) v3)]) (r := []) ri_96_38 rfl (by decide) rm_100.2.2.2 rm_100.2.2.1 rfl rfl rfl (by decide) (ro_kf (kd_48 (xl_97 hL q0))) (Nat.le_of_ble_eq_true rfl) (by decide) (by decide) (xs_100 (X := X) (xl_97 hL q0) q8) ?_
      rintro _ _ ⟨e1, e2⟩
      rw [e1, e2]
      show ro_w X _ 96 _ 41 [(0, .ref 48), (1, .int v1), (2, .int v2), (3, .int v3), (4, .int v4)] [] (xm_100 (xm_97 M v1 v2 v3) ((xm_97 M v1 v2 v3).2.2.1 52 (v4.toNatClampNeg)) (xf_99 (xm_97 M v1 v2 v3) v3)) (0, 0)
      refine rs_ret ri_96_41 rm_96.2.1 (by decide) ?_
      exact ⟨by rfl, by unfold xm_96; first | (simp only [if_neg h2, if_neg h5]; done) | rfl⟩
theorem xl_96 {M : ro_Mm} {v1 : Int32} {v2 : Int32} {v3 : Int32} {v4 : Int32} (hL : ro_lay M) (hp : xp_96 M v1 v2 v3 v4) : ro_lay (xm_96 M v1 v2 v3 v4) := by
  unfold xp_96 at hp
  unfold xm_96
  obtain ⟨q0, hp⟩ := hp
  by_cases hz : v4 < (0 : Int32)
  · have hp := hp.1 hz
    rw [if_pos hz]
    obtain ⟨q2, hp⟩ := hp
    obtain ⟨q3, hp⟩ := hp
    exact (xl_100 (xl_97 hL q0) q3)
  · have hp := hp.2 hz
    rw [if_neg hz]
    by_cases hz : (9 : Int32) ≤ v4
    · have hp := hp.1 hz
      rw [if_pos hz]
      obtain ⟨q5, hp⟩ := hp
      obtain ⟨q6, hp⟩ := hp
      exact (xl_100 (xl_97 hL q0) q6)
    · have hp := hp.2 hz
      rw [if_neg hz]
      obtain ⟨q7, hp⟩ := hp
      obtain ⟨q8, hp⟩ := hp
      exact (xl_100 (xl_97 hL q0) q8)
theorem xwI_96 {M : ro_Mm} {v1 : Int32} {v2 : Int32} {v3 : Int32} {v4 : Int32} {c j : Nat} (n0 : c ≠ 50) (n1 : c ≠ 51) (n2 : c ≠ 21) (n3 : c ≠ 16) (n4 : c ≠ 20) : (xm_96 M v1 v2 v3 v4).2.1 c j = M.2.1 c j := by
  unfold xm_96
  by_cases hz : v4 < (0 : Int32)
  · rw [if_pos hz]
    first | done | exact (((xwI_100)).trans (xwI_97 n0 n1 n2 n3 n4))
  · rw [if_neg hz]
    by_cases hz : (9 : Int32) ≤ v4
    · rw [if_pos hz]
      first | done | exact (((xwI_100)).trans (xwI_97 n0 n1 n2 n3 n4))
    · rw [if_neg hz]
      first | done | exact (((xwI_100)).trans (xwI_97 n0 n1 n2 n3 n4))
theorem xwJ_96 {M : ro_Mm} {v1 : Int32} {v2 : Int32} {v3 : Int32} {v4 : Int32} {c j : Nat} (n0 : c ≠ 52) (n1 : c ≠ 53) (n2 : c ≠ 48) : (xm_96 M v1 v2 v3 v4).2.2.1 c j = M.2.2.1 c j := by
  unfold xm_96
  by_cases hz : v4 < (0 : Int32)
  · rw [if_pos hz]
    first | done | exact (((xwJ_100 n2)).trans (xwJ_97 n0 n1))
  · rw [if_neg hz]
    by_cases hz : (9 : Int32) ≤ v4
    · rw [if_pos hz]
      first | done | exact (((xwJ_100 n2)).trans (xwJ_97 n0 n1))
    · rw [if_neg hz]
      first | done | exact (((xwJ_100 n2)).trans (xwJ_97 n0 n1))
/-- RefusedOnce.mean(III)J -/
noncomputable def xf_103 (M : ro_Mm) (v1 : Int32) (v2 : Int32) (v3 : Int32) : Int64 := (if (xf_56 M v1) then (if (xf_13 M v2 (0 : Int32) (8 : Int32)) then (if (xf_95 M v3) then (xf_102 (xm_104 M (v1 / (10 : Int32)) (ro_irem v1 (10 : Int32)) v2) v3) else (-9223372036854775808 : Int64)) else (-9223372036854775808 : Int64)) else (-9223372036854775808 : Int64))
noncomputable def xm_103 (M : ro_Mm) (v1 : Int32) (v2 : Int32) (v3 : Int32) : ro_Mm := (if (xf_56 M v1) then (if (xf_13 M v2 (0 : Int32) (8 : Int32)) then (if (xf_95 M v3) then (xm_104 M (v1 / (10 : Int32)) (ro_irem v1 (10 : Int32)) v2) else M) else M) else M)
def xp_103 (M : ro_Mm) (v1 : Int32) (v2 : Int32) (v3 : Int32) : Prop := (((xf_56 M v1) → (((xf_13 M v2 (0 : Int32) (8 : Int32)) → (((xf_95 M v3) → (xp_104 M (v1 / (10 : Int32)) (ro_irem v1 (10 : Int32)) v2 ∧ True)) ∧ (¬ ((xf_95 M v3)) → True))) ∧ (¬ ((xf_13 M v2 (0 : Int32) (8 : Int32))) → True))) ∧ (¬ ((xf_56 M v1)) → True))
theorem xs_103 {X : ro_Sx} {M : ro_Mm} {v1 : Int32} {v2 : Int32} {v3 : Int32} (hL : ro_lay M) (hp : xp_103 M v1 v2 v3) : ro_cwp X 7 103 [.ref 4, .int v1, .int v2, .int v3] M (fun v M2 => v = some (.long (xf_103 M v1 v2 v3)) ∧ M2 = xm_103 M v1 v2 v3) := by
  refine rs_begin (lv0 := [(0, .ref 4), (1, .int v1), (2, .int v2), (3, .int v3)]) (by decide) rfl (by rw [rm_103.1]; exact Nat.le_of_ble_eq_true rfl) rfl ?_
  unfold xp_103 at hp
  refine rs_aload_n ri_103_0 rfl rfl ?_
  refine rs_iload_n ri_103_1 rfl rfl ?_
  refine rs_virt (As := [.int v1]) (r := []) ri_103_2 rfl (by decide) rm_56.2.2.2 rm_56.2.2.1 rfl rfl rfl (by decide) (ro_kf (kd_4 hL)) (Nat.le_of_ble_eq_true rfl) (by decide) (by decide) (xs_56 (X := X) hL) ?_
  rintro _ _ ⟨e1, e2⟩
  rw [e1, e2]
  show ro_w X _ 103 _ 5 [(0, .ref 4), (1, .int v1), (2, .int v2), (3, .int v3)] [.int (ro_b (xf_56 M v1))] M (0, 0)
  refine rs_ifeq_c (t := 25) ri_103_5 rfl rfl (fun h1 => ?_) (fun h1 => ?_)
  · have hp := hp.2 h1
    refine rs_ldc2 (v := (-9223372036854775808 : Int64)) ri_103_25 rfl rfl rfl ?_
    refine rs_lret ri_103_28 rm_103.2.1 (by decide) ?_
    exact ⟨by unfold xf_103; first | (simp only [if_neg h1]; done) | rfl, by unfold xm_103; first | (simp only [if_neg h1]; done) | rfl⟩
  · have hp := hp.1 h1
    refine rs_iload_n ri_103_8 rfl rfl ?_
    refine rs_iconst (v := (0 : Int32)) ri_103_9 rfl (by decide) ?_
    refine rs_bipush (v := (8 : Int32)) ri_103_10 rfl (by decide) ?_
    refine rs_stat (As := [.int v2, .int (0 : Int32), .int (8 : Int32)]) (r := []) ri_103_12 rfl rm_13.2.2.2 rfl rfl rfl (Nat.le_of_ble_eq_true rfl) (by decide) (by decide) (xs_13 (X := X) hL) ?_
    rintro _ _ ⟨e1, e2⟩
    rw [e1, e2]
    show ro_w X _ 103 _ 15 [(0, .ref 4), (1, .int v1), (2, .int v2), (3, .int v3)] [.int (ro_b (xf_13 M v2 (0 : Int32) (8 : Int32)))] M (0, 0)
    refine rs_ifeq_c (t := 25) ri_103_15 rfl rfl (fun h2 => ?_) (fun h2 => ?_)
    · have hp := hp.2 h2
      refine rs_ldc2 (v := (-9223372036854775808 : Int64)) ri_103_25 rfl rfl rfl ?_
      refine rs_lret ri_103_28 rm_103.2.1 (by decide) ?_
      exact ⟨by unfold xf_103; first | (simp only [if_pos h1, if_neg h2]; done) | rfl, by unfold xm_103; first | (simp only [if_pos h1, if_neg h2]; done) | rfl⟩
    · have hp := hp.1 h2
      refine rs_iload_n ri_103_18 rfl rfl ?_
      refine rs_stat (As := [.int v3]) (r := []) ri_103_19 rfl rm_95.2.2.2 rfl rfl rfl (Nat.le_of_ble_eq_true rfl) (by decide) (by decide) (xs_95 (X := X) hL) ?_
      rintro _ _ ⟨e1, e2⟩
      rw [e1, e2]
      show ro_w X _ 103 _ 22 [(0, .ref 4), (1, .int v1), (2, .int v2), (3, .int v3)] [.int (ro_b (xf_95 M v3))] M (0, 0)
      refine rs_ifne_c (t := 29) ri_103_22 rfl rfl (fun h3 => ?_) (fun h3 => ?_)
      · have hp := hp.1 h3
        refine rs_aload_n ri_103_29 rfl rfl ?_
        refine rs_gf (v := .ref 48) ri_103_30 rfl (by decide) (ro_kf (kd_4 hL)) rfl (rf_4_5 hL) ?_
        refine rs_iload_n ri_103_33 rfl rfl ?_
        refine rs_bipush (v := (10 : Int32)) ri_103_34 rfl (by decide) ?_
        refine rs_idiv (r := (v1 / (10 : Int32))) ri_103_36 rfl (by decide) rfl ?_
        refine rs_iload_n ri_103_37 rfl rfl ?_
        refine rs_bipush (v := (10 : Int32)) ri_103_38 rfl (by decide) ?_
        refine rs_irem (r := (ro_irem v1 (10 : Int32))) ri_103_40 rfl (by decide) rfl ?_
        refine rs_iload_n ri_103_41 rfl rfl ?_
        obtain ⟨q3, hp⟩ := hp
        refine rs_virt (As := [.int (v1 / (10 : Int32)), .int (ro_irem v1 (10 : Int32)), .int v2]) (r := []) ri_103_42 rfl (by decide) rm_104.2.2.2 rm_104.2.2.1 rfl rfl rfl (by decide) (ro_kf (kd_48 hL)) (Nat.le_of_ble_eq_true rfl) (by decide) (by decide) (xs_104 (X := X) hL q3) ?_
        rintro _ _ ⟨e1, e2⟩
        rw [e1, e2]
        show ro_w X _ 103 _ 45 [(0, .ref 4), (1, .int v1), (2, .int v2), (3, .int v3)] [] (xm_104 M (v1 / (10 : Int32)) (ro_irem v1 (10 : Int32)) v2) (0, 0)
        refine rs_aload_n ri_103_45 rfl rfl ?_
        refine rs_gf (v := .ref 48) ri_103_46 rfl (by decide) (ro_kf (kd_4 (xl_104 hL q3))) rfl (rf_4_5 (xl_104 hL q3)) ?_
        refine rs_iload_n ri_103_49 rfl rfl ?_
        refine rs_virt (As := [.int v3]) (r := []) ri_103_50 rfl (by decide) rm_102.2.2.2 rm_102.2.2.1 rfl rfl rfl (by decide) (ro_kf (kd_48 (xl_104 hL q3))) (Nat.le_of_ble_eq_true rfl) (by decide) (by decide) (xs_102 (X := X) (xl_104 hL q3)) ?_
        rintro _ _ ⟨e1, e2⟩
        rw [e1, e2]
        show ro_w X _ 103 _ 53 [(0, .ref 4), (1, .int v1), (2, .int v2), (3, .int v3)] [.long (xf_102 (xm_104 M (v1 / (10 : Int32)) (ro_irem v1 (10 : Int32)) v2) v3)] (xm_104 M (v1 / (10 : Int32)) (ro_irem v1 (10 : Int32)) v2) (0, 0)
        refine rs_lret ri_103_53 rm_103.2.1 (by decide) ?_
        exact ⟨by unfold xf_103; first | (simp only [if_pos h1, if_pos h2, if_pos h3]; done) | rfl, by unfold xm_103; first | (simp only [if_pos h1, if_pos h2, if_pos h3]; done) | rfl⟩
      · have hp := hp.2 h3
        refine rs_ldc2 (v := (-9223372036854775808 : Int64)) ri_103_25 rfl rfl rfl ?_
        refine rs_lret ri_103_28 rm_103.2.1 (by decide) ?_
        exact ⟨by unfold xf_103; first | (simp only [if_pos h1, if_pos h2, if_neg h3]; done) | rfl, by unfold xm_103; first | (simp only [if_pos h1, if_pos h2, if_neg h3]; done) | rfl⟩
theorem xl_103 {M : ro_Mm} {v1 : Int32} {v2 : Int32} {v3 : Int32} (hL : ro_lay M) (hp : xp_103 M v1 v2 v3) : ro_lay (xm_103 M v1 v2 v3) := by
  unfold xp_103 at hp
  unfold xm_103
  by_cases hz : (xf_56 M v1)
  · have hp := hp.1 hz
    rw [if_pos hz]
    by_cases hz : (xf_13 M v2 (0 : Int32) (8 : Int32))
    · have hp := hp.1 hz
      rw [if_pos hz]
      by_cases hz : (xf_95 M v3)
      · have hp := hp.1 hz
        rw [if_pos hz]
        obtain ⟨q3, hp⟩ := hp
        exact (xl_104 hL q3)
      · have hp := hp.2 hz
        rw [if_neg hz]
        exact hL
    · have hp := hp.2 hz
      rw [if_neg hz]
      exact hL
  · have hp := hp.2 hz
    rw [if_neg hz]
    exact hL
theorem xwI_103 {M : ro_Mm} {v1 : Int32} {v2 : Int32} {v3 : Int32} {c j : Nat} (n0 : c ≠ 50) (n1 : c ≠ 51) (n2 : c ≠ 21) (n3 : c ≠ 16) (n4 : c ≠ 20) : (xm_103 M v1 v2 v3).2.1 c j = M.2.1 c j := by
  unfold xm_103
  by_cases hz : (xf_56 M v1)
  · rw [if_pos hz]
    by_cases hz : (xf_13 M v2 (0 : Int32) (8 : Int32))
    · rw [if_pos hz]
      by_cases hz : (xf_95 M v3)
      · rw [if_pos hz]
        first | done | exact (xwI_104 n0 n1 n2 n3 n4)
      · rw [if_neg hz]
        first | done | exact rfl
    · rw [if_neg hz]
      first | done | exact rfl
  · rw [if_neg hz]
    first | done | exact rfl
theorem xwJ_103 {M : ro_Mm} {v1 : Int32} {v2 : Int32} {v3 : Int32} {c j : Nat} (n0 : c ≠ 52) (n1 : c ≠ 53) (n2 : c ≠ 48) : (xm_103 M v1 v2 v3).2.2.1 c j = M.2.2.1 c j := by
  unfold xm_103
  by_cases hz : (xf_56 M v1)
  · rw [if_pos hz]
    by_cases hz : (xf_13 M v2 (0 : Int32) (8 : Int32))
    · rw [if_pos hz]
      by_cases hz : (xf_95 M v3)
      · rw [if_pos hz]
        first | done | exact (xwJ_104 n0 n1 n2)
      · rw [if_neg hz]
        first | done | exact rfl
    · rw [if_neg hz]
      first | done | exact rfl
  · rw [if_neg hz]
    first | done | exact rfl
/-- RefusedOnce.stays(II)J -/
noncomputable def xf_105 (M : ro_Mm) (v1 : Int32) (v2 : Int32) : Int64 := (if (xf_13 M v1 (0 : Int32) (2 : Int32)) then (if (xf_95 M v2) then (xf_102 (xm_106 M v1) v2) else (-9223372036854775808 : Int64)) else (-9223372036854775808 : Int64))
noncomputable def xm_105 (M : ro_Mm) (v1 : Int32) (v2 : Int32) : ro_Mm := (if (xf_13 M v1 (0 : Int32) (2 : Int32)) then (if (xf_95 M v2) then (xm_106 M v1) else M) else M)
def xp_105 (M : ro_Mm) (v1 : Int32) (v2 : Int32) : Prop := (((xf_13 M v1 (0 : Int32) (2 : Int32)) → (((xf_95 M v2) → (xp_106 M v1 ∧ True)) ∧ (¬ ((xf_95 M v2)) → True))) ∧ (¬ ((xf_13 M v1 (0 : Int32) (2 : Int32))) → True))
theorem xs_105 {X : ro_Sx} {M : ro_Mm} {v1 : Int32} {v2 : Int32} (hL : ro_lay M) (hp : xp_105 M v1 v2) : ro_cwp X 7 105 [.ref 4, .int v1, .int v2] M (fun v M2 => v = some (.long (xf_105 M v1 v2)) ∧ M2 = xm_105 M v1 v2) := by
  refine rs_begin (lv0 := [(0, .ref 4), (1, .int v1), (2, .int v2)]) (by decide) rfl (by rw [rm_105.1]; exact Nat.le_of_ble_eq_true rfl) rfl ?_
  unfold xp_105 at hp
  refine rs_iload_n ri_105_0 rfl rfl ?_
  refine rs_iconst (v := (0 : Int32)) ri_105_1 rfl (by decide) ?_
  refine rs_iconst (v := (2 : Int32)) ri_105_2 rfl (by decide) ?_
  refine rs_stat (As := [.int v1, .int (0 : Int32), .int (2 : Int32)]) (r := []) ri_105_3 rfl rm_13.2.2.2 rfl rfl rfl (Nat.le_of_ble_eq_true rfl) (by decide) (by decide) (xs_13 (X := X) hL) ?_
  rintro _ _ ⟨e1, e2⟩
  rw [e1, e2]
  show ro_w X _ 105 _ 6 [(0, .ref 4), (1, .int v1), (2, .int v2)] [.int (ro_b (xf_13 M v1 (0 : Int32) (2 : Int32)))] M (0, 0)
  refine rs_ifeq_c (t := 16) ri_105_6 rfl rfl (fun h1 => ?_) (fun h1 => ?_)
  · have hp := hp.2 h1
    refine rs_ldc2 (v := (-9223372036854775808 : Int64)) ri_105_16 rfl rfl rfl ?_
    refine rs_lret ri_105_19 rm_105.2.1 (by decide) ?_
    exact ⟨by unfold xf_105; first | (simp only [if_neg h1]; done) | rfl, by unfold xm_105; first | (simp only [if_neg h1]; done) | rfl⟩
  · have hp := hp.1 h1
    refine rs_iload_n ri_105_9 rfl rfl ?_
    refine rs_stat (As := [.int v2]) (r := []) ri_105_10 rfl rm_95.2.2.2 rfl rfl rfl (Nat.le_of_ble_eq_true rfl) (by decide) (by decide) (xs_95 (X := X) hL) ?_
    rintro _ _ ⟨e1, e2⟩
    rw [e1, e2]
    show ro_w X _ 105 _ 13 [(0, .ref 4), (1, .int v1), (2, .int v2)] [.int (ro_b (xf_95 M v2))] M (0, 0)
    refine rs_ifne_c (t := 20) ri_105_13 rfl rfl (fun h2 => ?_) (fun h2 => ?_)
    · have hp := hp.1 h2
      refine rs_aload_n ri_105_20 rfl rfl ?_
      refine rs_gf (v := .ref 48) ri_105_21 rfl (by decide) (ro_kf (kd_4 hL)) rfl (rf_4_5 hL) ?_
      refine rs_iload_n ri_105_24 rfl rfl ?_
      obtain ⟨q2, hp⟩ := hp
      refine rs_virt (As := [.int v1]) (r := []) ri_105_25 rfl (by decide) rm_106.2.2.2 rm_106.2.2.1 rfl rfl rfl (by decide) (ro_kf (kd_48 hL)) (Nat.le_of_ble_eq_true rfl) (by decide) (by decide) (xs_106 (X := X) hL q2) ?_
      rintro _ _ ⟨e1, e2⟩
      rw [e1, e2]
      show ro_w X _ 105 _ 28 [(0, .ref 4), (1, .int v1), (2, .int v2)] [] (xm_106 M v1) (0, 0)
      refine rs_aload_n ri_105_28 rfl rfl ?_
      refine rs_gf (v := .ref 48) ri_105_29 rfl (by decide) (ro_kf (kd_4 (xl_106 hL q2))) rfl (rf_4_5 (xl_106 hL q2)) ?_
      refine rs_iload_n ri_105_32 rfl rfl ?_
      refine rs_virt (As := [.int v2]) (r := []) ri_105_33 rfl (by decide) rm_102.2.2.2 rm_102.2.2.1 rfl rfl rfl (by decide) (ro_kf (kd_48 (xl_106 hL q2))) (Nat.le_of_ble_eq_true rfl) (by decide) (by decide) (xs_102 (X := X) (xl_106 hL q2)) ?_
      rintro _ _ ⟨e1, e2⟩
      rw [e1, e2]
      show ro_w X _ 105 _ 36 [(0, .ref 4), (1, .int v1), (2, .int v2)] [.long (xf_102 (xm_106 M v1) v2)] (xm_106 M v1) (0, 0)
      refine rs_lret ri_105_36 rm_105.2.1 (by decide) ?_
      exact ⟨by unfold xf_105; first | (simp only [if_pos h1, if_pos h2]; done) | rfl, by unfold xm_105; first | (simp only [if_pos h1, if_pos h2]; done) | rfl⟩
    · have hp := hp.2 h2
      refine rs_ldc2 (v := (-9223372036854775808 : Int64)) ri_105_16 rfl rfl rfl ?_
      refine rs_lret ri_105_19 rm_105.2.1 (by decide) ?_
      exact ⟨by unfold xf_105; first | (simp only [if_pos h1, if_neg h2]; done) | rfl, by unfold xm_105; first | (simp only [if_pos h1, if_neg h2]; done) | rfl⟩
theorem xl_105 {M : ro_Mm} {v1 : Int32} {v2 : Int32} (hL : ro_lay M) (hp : xp_105 M v1 v2) : ro_lay (xm_105 M v1 v2) := by
  unfold xp_105 at hp
  unfold xm_105
  by_cases hz : (xf_13 M v1 (0 : Int32) (2 : Int32))
  · have hp := hp.1 hz
    rw [if_pos hz]
    by_cases hz : (xf_95 M v2)
    · have hp := hp.1 hz
      rw [if_pos hz]
      obtain ⟨q2, hp⟩ := hp
      exact (xl_106 hL q2)
    · have hp := hp.2 hz
      rw [if_neg hz]
      exact hL
  · have hp := hp.2 hz
    rw [if_neg hz]
    exact hL
theorem xwI_105 {M : ro_Mm} {v1 : Int32} {v2 : Int32} {c j : Nat} (n0 : c ≠ 50) (n1 : c ≠ 51) (n2 : c ≠ 48) (n3 : c ≠ 21) (n4 : c ≠ 16) (n5 : c ≠ 20) : (xm_105 M v1 v2).2.1 c j = M.2.1 c j := by
  unfold xm_105
  by_cases hz : (xf_13 M v1 (0 : Int32) (2 : Int32))
  · rw [if_pos hz]
    by_cases hz : (xf_95 M v2)
    · rw [if_pos hz]
      first | done | exact (xwI_106 n0 n1 n2 n3 n4 n5)
    · rw [if_neg hz]
      first | done | exact rfl
  · rw [if_neg hz]
    first | done | exact rfl
theorem xwJ_105 {M : ro_Mm} {v1 : Int32} {v2 : Int32} {c j : Nat} (n0 : c ≠ 48) : (xm_105 M v1 v2).2.2.1 c j = M.2.2.1 c j := by
  unfold xm_105
  by_cases hz : (xf_13 M v1 (0 : Int32) (2 : Int32))
  · rw [if_pos hz]
    by_cases hz : (xf_95 M v2)
    · rw [if_pos hz]
      first | done | exact (xwJ_106 n0)
    · rw [if_neg hz]
      first | done | exact rfl
  · rw [if_neg hz]
    first | done | exact rfl
/-- RefusedOnce.drawn(III)I -/
noncomputable def xf_140 (M : ro_Mm) (v1 : Int32) (v2 : Int32) (v3 : Int32) : Int32 := (if v2 < (0 : Int32) then (-1 : Int32) else (if (xf_13 M (v2 / (100 : Int32)) (1 : Int32) (30 : Int32)) then (if (xf_13 M (ro_irem v2 (100 : Int32)) (1 : Int32) (30 : Int32)) then (if (xf_13 M v3 (0 : Int32) (1 : Int32)) then (if v3 = (0 : Int32) then (xf_143 (xm_141 M v1 (v2 / (100 : Int32)) (ro_irem v2 (100 : Int32)))) else (xf_80 (xm_141 M v1 (v2 / (100 : Int32)) (ro_irem v2 (100 : Int32))))) else (-1 : Int32)) else (-1 : Int32)) else (-1 : Int32)))
noncomputable def xm_140 (M : ro_Mm) (v1 : Int32) (v2 : Int32) (v3 : Int32) : ro_Mm := (if v2 < (0 : Int32) then M else (if (xf_13 M (v2 / (100 : Int32)) (1 : Int32) (30 : Int32)) then (if (xf_13 M (ro_irem v2 (100 : Int32)) (1 : Int32) (30 : Int32)) then (if (xf_13 M v3 (0 : Int32) (1 : Int32)) then (xm_141 M v1 (v2 / (100 : Int32)) (ro_irem v2 (100 : Int32))) else M) else M) else M))
def xp_140 (M : ro_Mm) (v1 : Int32) (v2 : Int32) (v3 : Int32) : Prop := ((v2 < (0 : Int32) → True) ∧ (¬ (v2 < (0 : Int32)) → (((xf_13 M (v2 / (100 : Int32)) (1 : Int32) (30 : Int32)) → (((xf_13 M (ro_irem v2 (100 : Int32)) (1 : Int32) (30 : Int32)) → (((xf_13 M v3 (0 : Int32) (1 : Int32)) → (xp_141 M v1 (v2 / (100 : Int32)) (ro_irem v2 (100 : Int32)) ∧ True)) ∧ (¬ ((xf_13 M v3 (0 : Int32) (1 : Int32))) → True))) ∧ (¬ ((xf_13 M (ro_irem v2 (100 : Int32)) (1 : Int32) (30 : Int32))) → True))) ∧ (¬ ((xf_13 M (v2 / (100 : Int32)) (1 : Int32) (30 : Int32))) → True))))
theorem xs_140 {X : ro_Sx} {M : ro_Mm} {v1 : Int32} {v2 : Int32} {v3 : Int32} (hL : ro_lay M) (hp : xp_140 M v1 v2 v3) : ro_cwp X 6 140 [.ref 4, .int v1, .int v2, .int v3] M (fun v M2 => v = some (.int (xf_140 M v1 v2 v3)) ∧ M2 = xm_140 M v1 v2 v3) := by
  refine rs_begin (lv0 := [(0, .ref 4), (1, .int v1), (2, .int v2), (3, .int v3)]) (by decide) rfl (by rw [rm_140.1]; exact Nat.le_of_ble_eq_true rfl) rfl ?_
  unfold xp_140 at hp
  refine rs_iload_n ri_140_0 rfl rfl ?_
  refine rs_if_lt (t := 34) ri_140_1 rfl rfl (fun h1 => ?_) (fun h1 => ?_)
  · have hp := hp.1 h1
    refine rs_iconst (v := (0 : Int32)) ri_140_34 rfl (by decide) ?_
    refine rs_istore (lv2 := [(4, .int (0 : Int32)), (0, .ref 4), (1, .int v1), (2, .int v2), (3, .int v3)]) ri_140_35 rfl rm_140.1 (by decide) rfl ?_
    refine rs_iload ri_140_37 rfl rfl ?_
    refine rs_if_eq (t := 51) ri_140_39 rfl rfl (fun h2 => ?_) (fun h2 => absurd (by decide) h2)
    refine rs_iconst (v := (-1 : Int32)) ri_140_51 rfl (by decide) ?_
    refine rs_iret ri_140_52 rm_140.2.1 (by decide) ?_
    exact ⟨by unfold xf_140; first | (simp only [if_pos h1]; done) | rfl, by unfold xm_140; first | (simp only [if_pos h1]; done) | rfl⟩
  · have hp := hp.2 h1
    refine rs_iload_n ri_140_4 rfl rfl ?_
    refine rs_bipush (v := (100 : Int32)) ri_140_5 rfl (by decide) ?_
    refine rs_idiv (r := (v2 / (100 : Int32))) ri_140_7 rfl (by decide) rfl ?_
    refine rs_iconst (v := (1 : Int32)) ri_140_8 rfl (by decide) ?_
    refine rs_bipush (v := (30 : Int32)) ri_140_9 rfl (by decide) ?_
    refine rs_stat (As := [.int (v2 / (100 : Int32)), .int (1 : Int32), .int (30 : Int32)]) (r := []) ri_140_11 rfl rm_13.2.2.2 rfl rfl rfl (Nat.le_of_ble_eq_true rfl) (by decide) (by decide) (xs_13 (X := X) hL) ?_
    rintro _ _ ⟨e1, e2⟩
    rw [e1, e2]
    show ro_w X _ 140 _ 14 [(0, .ref 4), (1, .int v1), (2, .int v2), (3, .int v3)] [.int (ro_b (xf_13 M (v2 / (100 : Int32)) (1 : Int32) (30 : Int32)))] M (0, 0)
    refine rs_ifeq_c (t := 34) ri_140_14 rfl rfl (fun h3 => ?_) (fun h3 => ?_)
    · have hp := hp.2 h3
      refine rs_iconst (v := (0 : Int32)) ri_140_34 rfl (by decide) ?_
      refine rs_istore (lv2 := [(4, .int (0 : Int32)), (0, .ref 4), (1, .int v1), (2, .int v2), (3, .int v3)]) ri_140_35 rfl rm_140.1 (by decide) rfl ?_
      refine rs_iload ri_140_37 rfl rfl ?_
      refine rs_if_eq (t := 51) ri_140_39 rfl rfl (fun h4 => ?_) (fun h4 => absurd (by decide) h4)
      refine rs_iconst (v := (-1 : Int32)) ri_140_51 rfl (by decide) ?_
      refine rs_iret ri_140_52 rm_140.2.1 (by decide) ?_
      exact ⟨by unfold xf_140; first | (simp only [if_neg h1, if_neg h3]; done) | rfl, by unfold xm_140; first | (simp only [if_neg h1, if_neg h3]; done) | rfl⟩
    · have hp := hp.1 h3
      refine rs_iload_n ri_140_17 rfl rfl ?_
      refine rs_bipush (v := (100 : Int32)) ri_140_18 rfl (by decide) ?_
      refine rs_irem (r := (ro_irem v2 (100 : Int32))) ri_140_20 rfl (by decide) rfl ?_
      refine rs_iconst (v := (1 : Int32)) ri_140_21 rfl (by decide) ?_
      refine rs_bipush (v := (30 : Int32)) ri_140_22 rfl (by decide) ?_
      refine rs_stat (As := [.int (ro_irem v2 (100 : Int32)), .int (1 : Int32), .int (30 : Int32)]) (r := []) ri_140_24 rfl rm_13.2.2.2 rfl rfl rfl (Nat.le_of_ble_eq_true rfl) (by decide) (by decide) (xs_13 (X := X) hL) ?_
      rintro _ _ ⟨e1, e2⟩
      rw [e1, e2]
      show ro_w X _ 140 _ 27 [(0, .ref 4), (1, .int v1), (2, .int v2), (3, .int v3)] [.int (ro_b (xf_13 M (ro_irem v2 (100 : Int32)) (1 : Int32) (30 : Int32)))] M (0, 0)
      refine rs_ifeq_c (t := 34) ri_140_27 rfl rfl (fun h5 => ?_) (fun h5 => ?_)
      · have hp := hp.2 h5
        refine rs_iconst (v := (0 : Int32)) ri_140_34 rfl (by decide) ?_
        refine rs_istore (lv2 := [(4, .int (0 : Int32)), (0, .ref 4), (1, .int v1), (2, .int v2), (3, .int v3)]) ri_140_35 rfl rm_140.1 (by decide) rfl ?_
        refine rs_iload ri_140_37 rfl rfl ?_
        refine rs_if_eq (t := 51) ri_140_39 rfl rfl (fun h6 => ?_) (fun h6 => absurd (by decide) h6)
        refine rs_iconst (v := (-1 : Int32)) ri_140_51 rfl (by decide) ?_
        refine rs_iret ri_140_52 rm_140.2.1 (by decide) ?_
        exact ⟨by unfold xf_140; first | (simp only [if_neg h1, if_pos h3, if_neg h5]; done) | rfl, by unfold xm_140; first | (simp only [if_neg h1, if_pos h3, if_neg h5]; done) | rfl⟩
      · have hp := hp.1 h5
        refine rs_iconst (v := (1 : Int32)) ri_140_30 rfl (by decide) ?_
        refine rs_goto (t := 35) ri_140_31 rfl ?_
        refine rs_istore (lv2 := [(4, .int (1 : Int32)), (0, .ref 4), (1, .int v1), (2, .int v2), (3, .int v3)]) ri_140_35 rfl rm_140.1 (by decide) rfl ?_
        refine rs_iload ri_140_37 rfl rfl ?_
        refine rs_if_eq (t := 51) ri_140_39 rfl rfl (fun h7 => absurd h7 (by decide)) (fun h7 => ?_)
        refine rs_iload_n ri_140_42 rfl rfl ?_
        refine rs_iconst (v := (0 : Int32)) ri_140_43 rfl (by decide) ?_
        refine rs_iconst (v := (1 : Int32)) ri_140_44 rfl (by decide) ?_
        refine rs_stat (As := [.int v3, .int (0 : Int32), .int (1 : Int32)]) (r := []) ri_140_45 rfl rm_13.2.2.2 rfl rfl rfl (Nat.le_of_ble_eq_true rfl) (by decide) (by decide) (xs_13 (X := X) hL) ?_
        rintro _ _ ⟨e1, e2⟩
        rw [e1, e2]
        show ro_w X _ 140 _ 48 [(4, .int (1 : Int32)), (0, .ref 4), (1, .int v1), (2, .int v2), (3, .int v3)] [.int (ro_b (xf_13 M v3 (0 : Int32) (1 : Int32)))] M (0, 0)
        refine rs_ifne_c (t := 53) ri_140_48 rfl rfl (fun h8 => ?_) (fun h8 => ?_)
        · have hp := hp.1 h8
          refine rs_aload_n ri_140_53 rfl rfl ?_
          refine rs_gf (v := .ref 35) ri_140_54 rfl (by decide) (ro_kf (kd_4 hL)) rfl (rf_4_3 hL) ?_
          refine rs_iload_n ri_140_57 rfl rfl ?_
          refine rs_iload_n ri_140_58 rfl rfl ?_
          refine rs_bipush (v := (100 : Int32)) ri_140_59 rfl (by decide) ?_
          refine rs_idiv (r := (v2 / (100 : Int32))) ri_140_61 rfl (by decide) rfl ?_
          refine rs_iload_n ri_140_62 rfl rfl ?_
          refine rs_bipush (v := (100 : Int32)) ri_140_63 rfl (by decide) ?_
          refine rs_irem (r := (ro_irem v2 (100 : Int32))) ri_140_65 rfl (by decide) rfl ?_
          obtain ⟨q8, hp⟩ := hp
          refine rs_virt (As := [.int v1, .int (v2 / (100 : Int32)), .int (ro_irem v2 (100 : Int32))]) (r := []) ri_140_66 rfl (by decide) rm_141.2.2.2 rm_141.2.2.1 rfl rfl rfl (by decide) (ro_kf (kd_35 hL)) (Nat.le_of_ble_eq_true rfl) (by decide) (by decide) (xs_141 (X := X) hL q8) ?_
          rintro _ _ ⟨e1, e2⟩
          rw [e1, e2]
          show ro_w X _ 140 _ 69 [(4, .int (1 : Int32)), (0, .ref 4), (1, .int v1), (2, .int v2), (3, .int v3)] [] (xm_141 M v1 (v2 / (100 : Int32)) (ro_irem v2 (100 : Int32))) (0, 0)
          refine rs_iload_n ri_140_69 rfl rfl ?_
          refine rs_if_ne (t := 83) ri_140_70 rfl rfl (fun h10 => ?_) (fun h10 => ?_)
          · skip
            refine rs_aload_n ri_140_83 rfl rfl ?_
            refine rs_gf (v := .ref 35) ri_140_84 rfl (by decide) (ro_kf (kd_4 (xl_141 hL q8))) rfl (rf_4_3 (xl_141 hL q8)) ?_
            refine rs_virt (As := []) (r := []) ri_140_87 rfl (by decide) rm_80.2.2.2 rm_80.2.2.1 rfl rfl rfl (by decide) (ro_kf (kd_35 (xl_141 hL q8))) (Nat.le_of_ble_eq_true rfl) (by decide) (by decide) (xs_80 (X := X) (xl_141 hL q8)) ?_
            rintro _ _ ⟨e1, e2⟩
            rw [e1, e2]
            show ro_w X _ 140 _ 90 [(4, .int (1 : Int32)), (0, .ref 4), (1, .int v1), (2, .int v2), (3, .int v3)] [.int (xf_80 (xm_141 M v1 (v2 / (100 : Int32)) (ro_irem v2 (100 : Int32))))] (xm_141 M v1 (v2 / (100 : Int32)) (ro_irem v2 (100 : Int32))) (0, 0)
            refine rs_iret ri_140_90 rm_140.2.1 (by decide) ?_
            exact ⟨by unfold xf_140; first | (simp only [if_neg h1, if_pos h3, if_pos h5, if_pos h8, if_neg h10]; done) | rfl, by unfold xm_140; first | (simp only [if_neg h1, if_pos h3, if_pos h5, if_pos h8, if_neg h10]; done) | rfl⟩
          · skip
            refine rs_aload_n ri_140_73 rfl rfl ?_
            refine rs_gf (v := .ref 35) ri_140_74 rfl (by decide) (ro_kf (kd_4 (xl_141 hL q8))) rfl (rf_4_3 (xl_141 hL q8)) ?_
            refine rs_virt (As := []) (r := []) ri_140_77 rfl (by decide) rm_143.2.2.2 rm_143.2.2.1 rfl rfl rfl (by decide) (ro_kf (kd_35 (xl_141 hL q8))) (Nat.le_of_ble_eq_true rfl) (by decide) (by decide) (xs_143 (X := X) (xl_141 hL q8)) ?_
            rintro _ _ ⟨e1, e2⟩
            rw [e1, e2]
            show ro_w X _ 140 _ 80 [(4, .int (1 : Int32)), (0, .ref 4), (1, .int v1), (2, .int v2), (3, .int v3)] [.int (xf_143 (xm_141 M v1 (v2 / (100 : Int32)) (ro_irem v2 (100 : Int32))))] (xm_141 M v1 (v2 / (100 : Int32)) (ro_irem v2 (100 : Int32))) (0, 0)
            refine rs_goto (t := 90) ri_140_80 rfl ?_
            refine rs_iret ri_140_90 rm_140.2.1 (by decide) ?_
            exact ⟨by unfold xf_140; first | (simp only [if_neg h1, if_pos h3, if_pos h5, if_pos h8, if_pos h10]; done) | rfl, by unfold xm_140; first | (simp only [if_neg h1, if_pos h3, if_pos h5, if_pos h8, if_pos h10]; done) | rfl⟩
        · have hp := hp.2 h8
          refine rs_iconst (v := (-1 : Int32)) ri_140_51 rfl (by decide) ?_
          refine rs_iret ri_140_52 rm_140.2.1 (by decide) ?_
          exact ⟨by unfold xf_140; first | (simp only [if_neg h1, if_pos h3, if_pos h5, if_neg h8]; done) | rfl, by unfold xm_140; first | (simp only [if_neg h1, if_pos h3, if_pos h5, if_neg h8]; done) | rfl⟩
theorem xl_140 {M : ro_Mm} {v1 : Int32} {v2 : Int32} {v3 : Int32} (hL : ro_lay M) (hp : xp_140 M v1 v2 v3) : ro_lay (xm_140 M v1 v2 v3) := by
  unfold xp_140 at hp
  unfold xm_140
  by_cases hz : v2 < (0 : Int32)
  · have hp := hp.1 hz
    rw [if_pos hz]
    exact hL
  · have hp := hp.2 hz
    rw [if_neg hz]
    by_cases hz : (xf_13 M (v2 / (100 : Int32)) (1 : Int32) (30 : Int32))
    · have hp := hp.1 hz
      rw [if_pos hz]
      by_cases hz : (xf_13 M (ro_irem v2 (100 : Int32)) (1 : Int32) (30 : Int32))
      · have hp := hp.1 hz
        rw [if_pos hz]
        by_cases hz : (xf_13 M v3 (0 : Int32) (1 : Int32))
        · have hp := hp.1 hz
          rw [if_pos hz]
          obtain ⟨q8, hp⟩ := hp
          by_cases hz : v3 = (0 : Int32)
          · skip
            exact (xl_141 hL q8)
          · skip
            exact (xl_141 hL q8)
        · have hp := hp.2 hz
          rw [if_neg hz]
          exact hL
      · have hp := hp.2 hz
        rw [if_neg hz]
        exact hL
    · have hp := hp.2 hz
      rw [if_neg hz]
      exact hL
theorem xwI_140 {M : ro_Mm} {v1 : Int32} {v2 : Int32} {v3 : Int32} {c j : Nat} (n0 : c ≠ 35) (n1 : c ≠ 37) (n2 : c ≠ 38) (n3 : c ≠ 21) (n4 : c ≠ 16) (n5 : c ≠ 20) : (xm_140 M v1 v2 v3).2.1 c j = M.2.1 c j := by
  unfold xm_140
  by_cases hz : v2 < (0 : Int32)
  · rw [if_pos hz]
    first | done | exact rfl
  · rw [if_neg hz]
    by_cases hz : (xf_13 M (v2 / (100 : Int32)) (1 : Int32) (30 : Int32))
    · rw [if_pos hz]
      by_cases hz : (xf_13 M (ro_irem v2 (100 : Int32)) (1 : Int32) (30 : Int32))
      · rw [if_pos hz]
        by_cases hz : (xf_13 M v3 (0 : Int32) (1 : Int32))
        · rw [if_pos hz]
          first | done | exact (xwI_141 n0 n1 n2 n3 n4 n5)
        · rw [if_neg hz]
          first | done | exact rfl
      · rw [if_neg hz]
        first | done | exact rfl
    · rw [if_neg hz]
      first | done | exact rfl
theorem xwJ_140 {M : ro_Mm} {v1 : Int32} {v2 : Int32} {v3 : Int32} {c j : Nat} : (xm_140 M v1 v2 v3).2.2.1 c j = M.2.2.1 c j := by
  unfold xm_140
  by_cases hz : v2 < (0 : Int32)
  · rw [if_pos hz]
    first | done | exact rfl
  · rw [if_neg hz]
    by_cases hz : (xf_13 M (v2 / (100 : Int32)) (1 : Int32) (30 : Int32))
    · rw [if_pos hz]
      by_cases hz : (xf_13 M (ro_irem v2 (100 : Int32)) (1 : Int32) (30 : Int32))
      · rw [if_pos hz]
        by_cases hz : (xf_13 M v3 (0 : Int32) (1 : Int32))
        · rw [if_pos hz]
          first | done | exact (xwJ_141)
        · rw [if_neg hz]
          first | done | exact rfl
      · rw [if_neg hz]
        first | done | exact rfl
    · rw [if_neg hz]
      first | done | exact rfl
/-- RefusedOnceModel.odds(I)I -/
noncomputable def xf_226 (M : ro_Mm) (v1 : Int32) : Int32 := (if (xf_227 M v1) then (xf_229 (xm_228 M) (v1 / (10 : Int32)) (ro_irem v1 (10 : Int32))) else (-1 : Int32))
noncomputable def xm_226 (M : ro_Mm) (v1 : Int32) : ro_Mm := (if (xf_227 M v1) then (xm_229 (xm_228 M) (v1 / (10 : Int32)) (ro_irem v1 (10 : Int32))) else M)
def xp_226 (M : ro_Mm) (v1 : Int32) : Prop := (((xf_227 M v1) → (xp_228 M ∧ (xp_229 (xm_228 M) (v1 / (10 : Int32)) (ro_irem v1 (10 : Int32)) ∧ True))) ∧ (¬ ((xf_227 M v1)) → True))
theorem xs_226 {X : ro_Sx} {M : ro_Mm} {v1 : Int32} (hL : ro_lay M) (hp : xp_226 M v1) : ro_cwp X 5 226 [.ref 163, .int v1] M (fun v M2 => v = some (.int (xf_226 M v1)) ∧ M2 = xm_226 M v1) := by
  refine rs_begin (lv0 := [(0, .ref 163), (1, .int v1)]) (by decide) rfl (by rw [rm_226.1]; exact Nat.le_of_ble_eq_true rfl) rfl ?_
  unfold xp_226 at hp
  refine rs_aload_n ri_226_0 rfl rfl ?_
  refine rs_iload_n ri_226_1 rfl rfl ?_
  refine rs_virt (As := [.int v1]) (r := []) ri_226_2 rfl (by decide) rm_227.2.2.2 rm_227.2.2.1 rfl rfl rfl (by decide) (ro_kf (kd_163 hL)) (Nat.le_of_ble_eq_true rfl) (by decide) (by decide) (xs_227 (X := X) hL) ?_
  rintro _ _ ⟨e1, e2⟩
  rw [e1, e2]
  show ro_w X _ 226 _ 5 [(0, .ref 163), (1, .int v1)] [.int (ro_b (xf_227 M v1))] M (0, 0)
  refine rs_ifne_c (t := 10) ri_226_5 rfl rfl (fun h1 => ?_) (fun h1 => ?_)
  · have hp := hp.1 h1
    refine rs_aload_n ri_226_10 rfl rfl ?_
    obtain ⟨q1, hp⟩ := hp
    refine rs_virt (As := []) (r := []) ri_226_11 rfl (by decide) rm_228.2.2.2 rm_228.2.2.1 rfl rfl rfl (by decide) (ro_kf (kd_163 hL)) (Nat.le_of_ble_eq_true rfl) (by decide) (by decide) (xs_228 (X := X) hL q1) ?_
    rintro _ _ ⟨e1, e2⟩
    rw [e1, e2]
    show ro_w X _ 226 _ 14 [(0, .ref 163), (1, .int v1)] [] (xm_228 M) (0, 0)
    refine rs_aload_n ri_226_14 rfl rfl ?_
    refine rs_iload_n ri_226_15 rfl rfl ?_
    refine rs_bipush (v := (10 : Int32)) ri_226_16 rfl (by decide) ?_
    refine rs_idiv (r := (v1 / (10 : Int32))) ri_226_18 rfl (by decide) rfl ?_
    refine rs_iload_n ri_226_19 rfl rfl ?_
    refine rs_bipush (v := (10 : Int32)) ri_226_20 rfl (by decide) ?_
    refine rs_irem (r := (ro_irem v1 (10 : Int32))) ri_226_22 rfl (by decide) rfl ?_
    obtain ⟨q2, hp⟩ := hp
    refine rs_virt (As := [.int (v1 / (10 : Int32)), .int (ro_irem v1 (10 : Int32))]) (r := []) ri_226_23 rfl (by decide) rm_229.2.2.2 rm_229.2.2.1 rfl rfl rfl (by decide) (ro_kf (kd_163 (xl_228 hL q1))) (Nat.le_of_ble_eq_true rfl) (by decide) (by decide) (xs_229 (X := X) (xl_228 hL q1) q2) ?_
    rintro _ _ ⟨e1, e2⟩
    rw [e1, e2]
    show ro_w X _ 226 _ 26 [(0, .ref 163), (1, .int v1)] [.int (xf_229 (xm_228 M) (v1 / (10 : Int32)) (ro_irem v1 (10 : Int32)))] (xm_229 (xm_228 M) (v1 / (10 : Int32)) (ro_irem v1 (10 : Int32))) (0, 0)
    refine rs_iret ri_226_26 rm_226.2.1 (by decide) ?_
    exact ⟨by unfold xf_226; first | (simp only [if_pos h1]; done) | rfl, by unfold xm_226; first | (simp only [if_pos h1]; done) | rfl⟩
  · have hp := hp.2 h1
    refine rs_iconst (v := (-1 : Int32)) ri_226_8 rfl (by decide) ?_
    refine rs_iret ri_226_9 rm_226.2.1 (by decide) ?_
    exact ⟨by unfold xf_226; first | (simp only [if_neg h1]; done) | rfl, by unfold xm_226; first | (simp only [if_neg h1]; done) | rfl⟩
theorem xl_226 {M : ro_Mm} {v1 : Int32} (hL : ro_lay M) (hp : xp_226 M v1) : ro_lay (xm_226 M v1) := by
  unfold xp_226 at hp
  unfold xm_226
  by_cases hz : (xf_227 M v1)
  · have hp := hp.1 hz
    rw [if_pos hz]
    obtain ⟨q1, hp⟩ := hp
    obtain ⟨q2, hp⟩ := hp
    exact (xl_229 (xl_228 hL q1) q2)
  · have hp := hp.2 hz
    rw [if_neg hz]
    exact hL
theorem xwI_226 {M : ro_Mm} {v1 : Int32} {c j : Nat} (n0 : c ≠ 181) (n1 : c ≠ 182) (n2 : c ≠ 179) (n3 : c ≠ 180) : (xm_226 M v1).2.1 c j = M.2.1 c j := by
  unfold xm_226
  by_cases hz : (xf_227 M v1)
  · rw [if_pos hz]
    first | done | exact (((xwI_229 n2 n3)).trans (xwI_228 n0 n1))
  · rw [if_neg hz]
    first | done | exact rfl
theorem xwJ_226 {M : ro_Mm} {v1 : Int32} {c j : Nat} : (xm_226 M v1).2.2.1 c j = M.2.2.1 c j := by
  unfold xm_226
  by_cases hz : (xf_227 M v1)
  · rw [if_pos hz]
    first | done | exact (((xwJ_229)).trans (xwJ_228))
  · rw [if_neg hz]
    first | done | exact rfl
/-- a loop of RefusedOnceModel.goEvening(II)V -/
noncomputable def xg_236_30 : Nat → ro_Mm → Int32 → Int32 → Int32 → Int32 → Int32 × ro_Mm
  | 0, M, v4, v3, v1, v2 => (v4, M)
  | n + 1, M, v4, v3, v1, v2 => (if v3 ≤ v4 then (v4, M) else (if (ro_irem (xf_238 M v1 v4) (2 : Int32)) = (1 : Int32) then (if (xf_240 M ((xf_238 M v1 v4) / (20 : Int32)) ((ro_irem (xf_238 M v1 v4) (20 : Int32)) / (2 : Int32))) then (xg_236_30 n (xm_242 M ((xf_238 M v1 v4) / (20 : Int32)) ((ro_irem (xf_238 M v1 v4) (20 : Int32)) / (2 : Int32))) (v4 + (1 : Int32)) v3 v1 v2) else (if (0 : Int32) ≤ (M.2.1 163 30) then (xg_236_30 n M (v4 + (1 : Int32)) v3 v1 v2) else (xg_236_30 n (ro_sI M 163 30 v4) (v4 + (1 : Int32)) v3 v1 v2))) else (if (xf_241 M ((xf_238 M v1 v4) / (20 : Int32)) ((ro_irem (xf_238 M v1 v4) (20 : Int32)) / (2 : Int32))) then (if (xf_243 M ((xf_238 M v1 v4) / (20 : Int32)) ((ro_irem (xf_238 M v1 v4) (20 : Int32)) / (2 : Int32))) then (xg_236_30 n (ro_sI (ro_sI (xm_244 (xm_243 M ((xf_238 M v1 v4) / (20 : Int32)) ((ro_irem (xf_238 M v1 v4) (20 : Int32)) / (2 : Int32))) ((xf_238 M v1 v4) / (20 : Int32))) 163 29 ((M.2.1 163 29) + (1 : Int32))) 163 31 ((M.2.1 163 31) ||| ((1 : Int32) <<< (((ro_irem (xf_238 M v1 v4) (20 : Int32)) / (2 : Int32)) &&& 31)))) (v4 + (1 : Int32)) v3 v1 v2) else (xg_236_30 n (xm_245 (xm_243 M ((xf_238 M v1 v4) / (20 : Int32)) ((ro_irem (xf_238 M v1 v4) (20 : Int32)) / (2 : Int32))) ((xf_238 M v1 v4) / (20 : Int32)) ((ro_irem (xf_238 M v1 v4) (20 : Int32)) / (2 : Int32))) (v4 + (1 : Int32)) v3 v1 v2)) else (if (0 : Int32) ≤ (M.2.1 163 30) then (xg_236_30 n M (v4 + (1 : Int32)) v3 v1 v2) else (xg_236_30 n (ro_sI M 163 30 v4) (v4 + (1 : Int32)) v3 v1 v2)))))
def xq_236_30 : Nat → ro_Mm → Int32 → Int32 → Int32 → Int32 → Prop
  | 0, _, _, _, _, _ => False
  | n + 1, M, v4, v3, v1, v2 => ((v3 ≤ v4 → True) ∧ (¬ (v3 ≤ v4) → (xp_238 M v1 v4 ∧ (xp_238 M v1 v4 ∧ (xp_238 M v1 v4 ∧ (((ro_irem (xf_238 M v1 v4) (2 : Int32)) = (1 : Int32) → (xp_240 M ((xf_238 M v1 v4) / (20 : Int32)) ((ro_irem (xf_238 M v1 v4) (20 : Int32)) / (2 : Int32)) ∧ (((xf_240 M ((xf_238 M v1 v4) / (20 : Int32)) ((ro_irem (xf_238 M v1 v4) (20 : Int32)) / (2 : Int32))) → (xp_242 M ((xf_238 M v1 v4) / (20 : Int32)) ((ro_irem (xf_238 M v1 v4) (20 : Int32)) / (2 : Int32)) ∧ (xq_236_30 n (xm_242 M ((xf_238 M v1 v4) / (20 : Int32)) ((ro_irem (xf_238 M v1 v4) (20 : Int32)) / (2 : Int32))) (v4 + (1 : Int32)) v3 v1 v2))) ∧ (¬ ((xf_240 M ((xf_238 M v1 v4) / (20 : Int32)) ((ro_irem (xf_238 M v1 v4) (20 : Int32)) / (2 : Int32)))) → (((0 : Int32) ≤ (M.2.1 163 30) → (xq_236_30 n M (v4 + (1 : Int32)) v3 v1 v2)) ∧ (¬ ((0 : Int32) ≤ (M.2.1 163 30)) → (xq_236_30 n (ro_sI M 163 30 v4) (v4 + (1 : Int32)) v3 v1 v2))))))) ∧ (¬ ((ro_irem (xf_238 M v1 v4) (2 : Int32)) = (1 : Int32)) → (xp_241 M ((xf_238 M v1 v4) / (20 : Int32)) ((ro_irem (xf_238 M v1 v4) (20 : Int32)) / (2 : Int32)) ∧ (((xf_241 M ((xf_238 M v1 v4) / (20 : Int32)) ((ro_irem (xf_238 M v1 v4) (20 : Int32)) / (2 : Int32))) → (xp_243 M ((xf_238 M v1 v4) / (20 : Int32)) ((ro_irem (xf_238 M v1 v4) (20 : Int32)) / (2 : Int32)) ∧ (((xf_243 M ((xf_238 M v1 v4) / (20 : Int32)) ((ro_irem (xf_238 M v1 v4) (20 : Int32)) / (2 : Int32))) → (xp_244 (xm_243 M ((xf_238 M v1 v4) / (20 : Int32)) ((ro_irem (xf_238 M v1 v4) (20 : Int32)) / (2 : Int32))) ((xf_238 M v1 v4) / (20 : Int32)) ∧ (xq_236_30 n (ro_sI (ro_sI (xm_244 (xm_243 M ((xf_238 M v1 v4) / (20 : Int32)) ((ro_irem (xf_238 M v1 v4) (20 : Int32)) / (2 : Int32))) ((xf_238 M v1 v4) / (20 : Int32))) 163 29 ((M.2.1 163 29) + (1 : Int32))) 163 31 ((M.2.1 163 31) ||| ((1 : Int32) <<< (((ro_irem (xf_238 M v1 v4) (20 : Int32)) / (2 : Int32)) &&& 31)))) (v4 + (1 : Int32)) v3 v1 v2))) ∧ (¬ ((xf_243 M ((xf_238 M v1 v4) / (20 : Int32)) ((ro_irem (xf_238 M v1 v4) (20 : Int32)) / (2 : Int32)))) → (xp_245 (xm_243 M ((xf_238 M v1 v4) / (20 : Int32)) ((ro_irem (xf_238 M v1 v4) (20 : Int32)) / (2 : Int32))) ((xf_238 M v1 v4) / (20 : Int32)) ((ro_irem (xf_238 M v1 v4) (20 : Int32)) / (2 : Int32)) ∧ (xq_236_30 n (xm_245 (xm_243 M ((xf_238 M v1 v4) / (20 : Int32)) ((ro_irem (xf_238 M v1 v4) (20 : Int32)) / (2 : Int32))) ((xf_238 M v1 v4) / (20 : Int32)) ((ro_irem (xf_238 M v1 v4) (20 : Int32)) / (2 : Int32))) (v4 + (1 : Int32)) v3 v1 v2)))))) ∧ (¬ ((xf_241 M ((xf_238 M v1 v4) / (20 : Int32)) ((ro_irem (xf_238 M v1 v4) (20 : Int32)) / (2 : Int32)))) → (((0 : Int32) ≤ (M.2.1 163 30) → (xq_236_30 n M (v4 + (1 : Int32)) v3 v1 v2)) ∧ (¬ ((0 : Int32) ≤ (M.2.1 163 30)) → (xq_236_30 n (ro_sI M 163 30 v4) (v4 + (1 : Int32)) v3 v1 v2)))))))))))))
theorem xt_236_30 {X : ro_Sx} {post : ro_Po} : ∀ (n : Nat) {M : ro_Mm} {v4 : Int32} {v3 : Int32} {v1 : Int32} {v2 : Int32} (hL : ro_lay M) (hp : xq_236_30 n M v4 v3 v1 v2) (hk : ro_w X 5 236 post 201 [(4, .int (xg_236_30 n M v4 v3 v1 v2).1), (3, .int v3), (0, .ref 163), (1, .int v1), (2, .int v2)] [] (xg_236_30 n M v4 v3 v1 v2).2 (0, 0)), ro_w X 5 236 post 30 [(4, .int v4), (3, .int v3), (0, .ref 163), (1, .int v1), (2, .int v2)] [] M (0, 0) := by
  intro n
  induction n with
  | zero => intro M v4 v3 v1 v2 hL hp hk; exact False.elim hp
  | succ n ih =>
    intro M v4 v3 v1 v2 hL hp hk
    rw [xq_236_30] at hp
    refine rs_iload ri_236_30 rfl rfl ?_
    refine rs_iload_n ri_236_32 rfl rfl ?_
    refine rs_icmp_ge (t := 201) ri_236_33 rfl rfl (fun h3 => ?_) (fun h3 => ?_)
    · skip
      have e : xg_236_30 (n + 1) M v4 v3 v1 v2 = (v4, M) := by rw [xg_236_30]; first | (simp only [if_pos h3]; done) | rfl
      rw [e] at hk
      exact ro_w_lv (ro_sub_c rfl (ro_sub_c rfl (ro_sub_c rfl (ro_sub_c rfl (ro_sub_c rfl (ro_sub_n rfl)))))) hk
    · have hp := hp.2 h3
      refine rs_aload_n ri_236_36 rfl rfl ?_
      refine rs_iload_n ri_236_37 rfl rfl ?_
      refine rs_iload ri_236_38 rfl rfl ?_
      obtain ⟨q3, hp⟩ := hp
      refine rs_virt (As := [.int v1, .int v4]) (r := []) ri_236_40 rfl (by decide) rm_238.2.2.2 rm_238.2.2.1 rfl rfl rfl (by decide) (ro_kf (kd_163 hL)) (Nat.le_of_ble_eq_true rfl) (by decide) (by decide) (xs_238 (X := X) hL q3) ?_
      rintro _ _ ⟨e1, e2⟩
      rw [e1, e2]
      show ro_w X _ 236 _ 43 [(4, .int v4), (3, .int v3), (0, .ref 163), (1, .int v1), (2, .int v2)] [.int (xf_238 M v1 v4)] M (0, 0)
      refine rs_bipush (v := (20 : Int32)) ri_236_43 rfl (by decide) ?_
      refine rs_idiv (r := ((xf_238 M v1 v4) / (20 : Int32))) ri_236_45 rfl (by decide) rfl ?_
      refine rs_istore (lv2 := [(5, .int ((xf_238 M v1 v4) / (20 : Int32))), (4, .int v4), (3, .int v3), (0, .ref 163), (1, .int v1), (2, .int v2)]) ri_236_46 rfl rm_236.1 (by decide) rfl ?_
      refine rs_aload_n ri_236_48 rfl rfl ?_
      refine rs_iload_n ri_236_49 rfl rfl ?_
      refine rs_iload ri_236_50 rfl rfl ?_
      obtain ⟨q4, hp⟩ := hp
      refine rs_virt (As := [.int v1, .int v4]) (r := []) ri_236_52 rfl (by decide) rm_238.2.2.2 rm_238.2.2.1 rfl rfl rfl (by decide) (ro_kf (kd_163 hL)) (Nat.le_of_ble_eq_true rfl) (by decide) (by decide) (xs_238 (X := X) hL q4) ?_
      rintro _ _ ⟨e1, e2⟩
      rw [e1, e2]
      show ro_w X _ 236 _ 55 [(5, .int ((xf_238 M v1 v4) / (20 : Int32))), (4, .int v4), (3, .int v3), (0, .ref 163), (1, .int v1), (2, .int v2)] [.int (xf_238 M v1 v4)] M (0, 0)
      refine rs_bipush (v := (20 : Int32)) ri_236_55 rfl (by decide) ?_
      refine rs_irem (r := (ro_irem (xf_238 M v1 v4) (20 : Int32))) ri_236_57 rfl (by decide) rfl ?_
      refine rs_iconst (v := (2 : Int32)) ri_236_58 rfl (by decide) ?_
      refine rs_idiv (r := ((ro_irem (xf_238 M v1 v4) (20 : Int32)) / (2 : Int32))) ri_236_59 rfl (by decide) rfl ?_
      refine rs_istore (lv2 := [(6, .int ((ro_irem (xf_238 M v1 v4) (20 : Int32)) / (2 : Int32))), (5, .int ((xf_238 M v1 v4) / (20 : Int32))), (4, .int v4), (3, .int v3), (0, .ref 163), (1, .int v1), (2, .int v2)]) ri_236_60 rfl rm_236.1 (by decide) rfl ?_
      refine rs_aload_n ri_236_62 rfl rfl ?_
      refine rs_iload_n ri_236_63 rfl rfl ?_
      refine rs_iload ri_236_64 rfl rfl ?_
      obtain ⟨q5, hp⟩ := hp
      refine rs_virt (As := [.int v1, .int v4]) (r := []) ri_236_66 rfl (by decide) rm_238.2.2.2 rm_238.2.2.1 rfl rfl rfl (by decide) (ro_kf (kd_163 hL)) (Nat.le_of_ble_eq_true rfl) (by decide) (by decide) (xs_238 (X := X) hL q5) ?_
      rintro _ _ ⟨e1, e2⟩
      rw [e1, e2]
      show ro_w X _ 236 _ 69 [(6, .int ((ro_irem (xf_238 M v1 v4) (20 : Int32)) / (2 : Int32))), (5, .int ((xf_238 M v1 v4) / (20 : Int32))), (4, .int v4), (3, .int v3), (0, .ref 163), (1, .int v1), (2, .int v2)] [.int (xf_238 M v1 v4)] M (0, 0)
      refine rs_iconst (v := (2 : Int32)) ri_236_69 rfl (by decide) ?_
      refine rs_irem (r := (ro_irem (xf_238 M v1 v4) (2 : Int32))) ri_236_70 rfl (by decide) rfl ?_
      refine rs_iconst (v := (1 : Int32)) ri_236_71 rfl (by decide) ?_
      refine rs_icmp_ne (t := 79) ri_236_72 rfl rfl (fun h7 => ?_) (fun h7 => ?_)
      · have hp := hp.2 h7
        refine rs_iconst (v := (0 : Int32)) ri_236_79 rfl (by decide) ?_
        refine rs_istore (lv2 := [(7, .int (0 : Int32)), (6, .int ((ro_irem (xf_238 M v1 v4) (20 : Int32)) / (2 : Int32))), (5, .int ((xf_238 M v1 v4) / (20 : Int32))), (4, .int v4), (3, .int v3), (0, .ref 163), (1, .int v1), (2, .int v2)]) ri_236_80 rfl rm_236.1 (by decide) rfl ?_
        refine rs_iload ri_236_82 rfl rfl ?_
        refine rs_if_eq (t := 101) ri_236_84 rfl rfl (fun h8 => ?_) (fun h8 => absurd (by decide) h8)
        refine rs_aload_n ri_236_101 rfl rfl ?_
        refine rs_iload ri_236_102 rfl rfl ?_
        refine rs_iload ri_236_104 rfl rfl ?_
        obtain ⟨q8, hp⟩ := hp
        refine rs_virt (As := [.int ((xf_238 M v1 v4) / (20 : Int32)), .int ((ro_irem (xf_238 M v1 v4) (20 : Int32)) / (2 : Int32))]) (r := []) ri_236_106 rfl (by decide) rm_241.2.2.2 rm_241.2.2.1 rfl rfl rfl (by decide) (ro_kf (kd_163 hL)) (Nat.le_of_ble_eq_true rfl) (by decide) (by decide) (xs_241 (X := X) hL q8) ?_
        rintro _ _ ⟨e1, e2⟩
        rw [e1, e2]
        show ro_w X _ 236 _ 109 [(7, .int (0 : Int32)), (6, .int ((ro_irem (xf_238 M v1 v4) (20 : Int32)) / (2 : Int32))), (5, .int ((xf_238 M v1 v4) / (20 : Int32))), (4, .int v4), (3, .int v3), (0, .ref 163), (1, .int v1), (2, .int v2)] [.int (ro_b (xf_241 M ((xf_238 M v1 v4) / (20 : Int32)) ((ro_irem (xf_238 M v1 v4) (20 : Int32)) / (2 : Int32))))] M (0, 0)
        refine rs_ifne_c (t := 128) ri_236_109 rfl rfl (fun h10 => ?_) (fun h10 => ?_)
        · have hp := hp.1 h10
          refine rs_iload ri_236_128 rfl rfl ?_
          refine rs_if_eq (t := 144) ri_236_130 rfl rfl (fun h11 => ?_) (fun h11 => absurd (by decide) h11)
          refine rs_aload_n ri_236_144 rfl rfl ?_
          refine rs_iload ri_236_145 rfl rfl ?_
          refine rs_iload ri_236_147 rfl rfl ?_
          obtain ⟨q11, hp⟩ := hp
          refine rs_virt (As := [.int ((xf_238 M v1 v4) / (20 : Int32)), .int ((ro_irem (xf_238 M v1 v4) (20 : Int32)) / (2 : Int32))]) (r := []) ri_236_149 rfl (by decide) rm_243.2.2.2 rm_243.2.2.1 rfl rfl rfl (by decide) (ro_kf (kd_163 hL)) (Nat.le_of_ble_eq_true rfl) (by decide) (by decide) (xs_243 (X := X) hL q11) ?_
          rintro _ _ ⟨e1, e2⟩
          rw [e1, e2]
          show ro_w X _ 236 _ 152 [(7, .int (0 : Int32)), (6, .int ((ro_irem (xf_238 M v1 v4) (20 : Int32)) / (2 : Int32))), (5, .int ((xf_238 M v1 v4) / (20 : Int32))), (4, .int v4), (3, .int v3), (0, .ref 163), (1, .int v1), (2, .int v2)] [.int (ro_b (xf_243 M ((xf_238 M v1 v4) / (20 : Int32)) ((ro_irem (xf_238 M v1 v4) (20 : Int32)) / (2 : Int32))))] (xm_243 M ((xf_238 M v1 v4) / (20 : Int32)) ((ro_irem (xf_238 M v1 v4) (20 : Int32)) / (2 : Int32))) (0, 0)
          refine rs_ifeq_c (t := 187) ri_236_152 rfl rfl (fun h13 => ?_) (fun h13 => ?_)
          · have hp := hp.2 h13
            refine rs_aload_n ri_236_187 rfl rfl ?_
            refine rs_iload ri_236_188 rfl rfl ?_
            refine rs_iload ri_236_190 rfl rfl ?_
            obtain ⟨q13, hp⟩ := hp
            refine rs_virt (As := [.int ((xf_238 M v1 v4) / (20 : Int32)), .int ((ro_irem (xf_238 M v1 v4) (20 : Int32)) / (2 : Int32))]) (r := []) ri_236_192 rfl (by decide) rm_245.2.2.2 rm_245.2.2.1 rfl rfl rfl (by decide) (ro_kf (kd_163 (xl_243 hL q11))) (Nat.le_of_ble_eq_true rfl) (by decide) (by decide) (xs_245 (X := X) (xl_243 hL q11) q13) ?_
            rintro _ _ ⟨e1, e2⟩
            rw [e1, e2]
            show ro_w X _ 236 _ 195 [(7, .int (0 : Int32)), (6, .int ((ro_irem (xf_238 M v1 v4) (20 : Int32)) / (2 : Int32))), (5, .int ((xf_238 M v1 v4) / (20 : Int32))), (4, .int v4), (3, .int v3), (0, .ref 163), (1, .int v1), (2, .int v2)] [] (xm_245 (xm_243 M ((xf_238 M v1 v4) / (20 : Int32)) ((ro_irem (xf_238 M v1 v4) (20 : Int32)) / (2 : Int32))) ((xf_238 M v1 v4) / (20 : Int32)) ((ro_irem (xf_238 M v1 v4) (20 : Int32)) / (2 : Int32))) (0, 0)
            refine rs_iinc (v := (v4 + (1 : Int32))) (lv2 := [(4, .int (v4 + (1 : Int32))), (7, .int (0 : Int32)), (6, .int ((ro_irem (xf_238 M v1 v4) (20 : Int32)) / (2 : Int32))), (5, .int ((xf_238 M v1 v4) / (20 : Int32))), (3, .int v3), (0, .ref 163), (1, .int v1), (2, .int v2)]) ri_236_195 rfl rfl rfl rm_236.1 (by decide) rfl ?_
            refine rs_goto (t := 30) ri_236_198 rfl ?_
            have e : xg_236_30 (n + 1) M v4 v3 v1 v2 = xg_236_30 n (xm_245 (xm_243 M ((xf_238 M v1 v4) / (20 : Int32)) ((ro_irem (xf_238 M v1 v4) (20 : Int32)) / (2 : Int32))) ((xf_238 M v1 v4) / (20 : Int32)) ((ro_irem (xf_238 M v1 v4) (20 : Int32)) / (2 : Int32))) (v4 + (1 : Int32)) v3 v1 v2 := by rw [xg_236_30]; first | (simp only [if_neg h3, if_neg h7, if_pos h10, if_neg h13]; done) | rfl
            rw [e] at hk
            exact ro_w_lv (ro_sub_c rfl (ro_sub_c rfl (ro_sub_c rfl (ro_sub_c rfl (ro_sub_c rfl (ro_sub_n rfl)))))) (ih (xl_245 (xl_243 hL q11) q13)  hp hk)
          · have hp := hp.1 h13
            refine rs_aload_n ri_236_155 rfl rfl ?_
            refine rs_iload ri_236_156 rfl rfl ?_
            obtain ⟨q14, hp⟩ := hp
            refine rs_virt (As := [.int ((xf_238 M v1 v4) / (20 : Int32))]) (r := []) ri_236_158 rfl (by decide) rm_244.2.2.2 rm_244.2.2.1 rfl rfl rfl (by decide) (ro_kf (kd_163 (xl_243 hL q11))) (Nat.le_of_ble_eq_true rfl) (by decide) (by decide) (xs_244 (X := X) (xl_243 hL q11) q14) ?_
            rintro _ _ ⟨e1, e2⟩
            rw [e1, e2]
            show ro_w X _ 236 _ 161 [(7, .int (0 : Int32)), (6, .int ((ro_irem (xf_238 M v1 v4) (20 : Int32)) / (2 : Int32))), (5, .int ((xf_238 M v1 v4) / (20 : Int32))), (4, .int v4), (3, .int v3), (0, .ref 163), (1, .int v1), (2, .int v2)] [] (xm_244 (xm_243 M ((xf_238 M v1 v4) / (20 : Int32)) ((ro_irem (xf_238 M v1 v4) (20 : Int32)) / (2 : Int32))) ((xf_238 M v1 v4) / (20 : Int32))) (0, 0)
            refine rs_aload_n ri_236_161 rfl rfl ?_
            refine rs_dup ri_236_162 rfl rfl ?_
            refine rs_gf (v := .int (M.2.1 163 29)) ri_236_163 rfl (by decide) (ro_kf (kd_163 (xl_244 (xl_243 hL q11) q14))) rfl (congrArg Value.int (((xwI_244 (by decide) (by decide))).trans (xwI_243 (by decide) (by decide)))) ?_
            refine rs_iconst (v := (1 : Int32)) ri_236_166 rfl (by decide) ?_
            refine rs_iadd (r := ((M.2.1 163 29) + (1 : Int32))) ri_236_167 rfl rfl ?_
            refine rs_pf (M2 := (ro_sI (xm_244 (xm_243 M ((xf_238 M v1 v4) / (20 : Int32)) ((ro_irem (xf_238 M v1 v4) (20 : Int32)) / (2 : Int32))) ((xf_238 M v1 v4) / (20 : Int32))) 163 29 ((M.2.1 163 29) + (1 : Int32)))) ri_236_168 rfl (by decide) (ro_kf (kd_163 (xl_244 (xl_243 hL q11) q14))) (fun h => absurd h (by decide)) (fun f h => h) ?_
            refine rs_aload_n ri_236_171 rfl rfl ?_
            refine rs_dup ri_236_172 rfl rfl ?_
            refine rs_gf (v := .int (M.2.1 163 31)) ri_236_173 rfl (by decide) (ro_kf (kd_163 (xl_244 (xl_243 hL q11) q14))) rfl (congrArg Value.int ((((ro_sI_nj (by decide))).trans (xwI_244 (by decide) (by decide))).trans (xwI_243 (by decide) (by decide)))) ?_
            refine rs_iconst (v := (1 : Int32)) ri_236_176 rfl (by decide) ?_
            refine rs_iload ri_236_177 rfl rfl ?_
            refine rs_ishl (r := ((1 : Int32) <<< (((ro_irem (xf_238 M v1 v4) (20 : Int32)) / (2 : Int32)) &&& 31))) ri_236_179 rfl rfl ?_
            refine rs_ior (r := ((M.2.1 163 31) ||| ((1 : Int32) <<< (((ro_irem (xf_238 M v1 v4) (20 : Int32)) / (2 : Int32)) &&& 31)))) ri_236_180 rfl rfl ?_
            refine rs_pf (M2 := (ro_sI (ro_sI (xm_244 (xm_243 M ((xf_238 M v1 v4) / (20 : Int32)) ((ro_irem (xf_238 M v1 v4) (20 : Int32)) / (2 : Int32))) ((xf_238 M v1 v4) / (20 : Int32))) 163 29 ((M.2.1 163 29) + (1 : Int32))) 163 31 ((M.2.1 163 31) ||| ((1 : Int32) <<< (((ro_irem (xf_238 M v1 v4) (20 : Int32)) / (2 : Int32)) &&& 31))))) ri_236_181 rfl (by decide) (ro_kf (kd_163 (xl_244 (xl_243 hL q11) q14))) (fun h => absurd h (by decide)) (fun f h => h) ?_
            refine rs_goto (t := 195) ri_236_184 rfl ?_
            refine rs_iinc (v := (v4 + (1 : Int32))) (lv2 := [(4, .int (v4 + (1 : Int32))), (7, .int (0 : Int32)), (6, .int ((ro_irem (xf_238 M v1 v4) (20 : Int32)) / (2 : Int32))), (5, .int ((xf_238 M v1 v4) / (20 : Int32))), (3, .int v3), (0, .ref 163), (1, .int v1), (2, .int v2)]) ri_236_195 rfl rfl rfl rm_236.1 (by decide) rfl ?_
            refine rs_goto (t := 30) ri_236_198 rfl ?_
            have e : xg_236_30 (n + 1) M v4 v3 v1 v2 = xg_236_30 n (ro_sI (ro_sI (xm_244 (xm_243 M ((xf_238 M v1 v4) / (20 : Int32)) ((ro_irem (xf_238 M v1 v4) (20 : Int32)) / (2 : Int32))) ((xf_238 M v1 v4) / (20 : Int32))) 163 29 ((M.2.1 163 29) + (1 : Int32))) 163 31 ((M.2.1 163 31) ||| ((1 : Int32) <<< (((ro_irem (xf_238 M v1 v4) (20 : Int32)) / (2 : Int32)) &&& 31)))) (v4 + (1 : Int32)) v3 v1 v2 := by rw [xg_236_30]; first | (simp only [if_neg h3, if_neg h7, if_pos h10, if_pos h13]; done) | rfl
            rw [e] at hk
            exact ro_w_lv (ro_sub_c rfl (ro_sub_c rfl (ro_sub_c rfl (ro_sub_c rfl (ro_sub_c rfl (ro_sub_n rfl)))))) (ih (xl_244 (xl_243 hL q11) q14)  hp hk)
        · have hp := hp.2 h10
          refine rs_aload_n ri_236_112 rfl rfl ?_
          refine rs_gf (v := .int (M.2.1 163 30)) ri_236_113 rfl (by decide) (ro_kf (kd_163 hL)) rfl rfl ?_
          refine rs_if_ge (t := 195) ri_236_116 rfl rfl (fun h16 => ?_) (fun h16 => ?_)
          · have hp := hp.1 h16
            refine rs_iinc (v := (v4 + (1 : Int32))) (lv2 := [(4, .int (v4 + (1 : Int32))), (7, .int (0 : Int32)), (6, .int ((ro_irem (xf_238 M v1 v4) (20 : Int32)) / (2 : Int32))), (5, .int ((xf_238 M v1 v4) / (20 : Int32))), (3, .int v3), (0, .ref 163), (1, .int v1), (2, .int v2)]) ri_236_195 rfl rfl rfl rm_236.1 (by decide) rfl ?_
            refine rs_goto (t := 30) ri_236_198 rfl ?_
            have e : xg_236_30 (n + 1) M v4 v3 v1 v2 = xg_236_30 n M (v4 + (1 : Int32)) v3 v1 v2 := by rw [xg_236_30]; first | (simp only [if_neg h3, if_neg h7, if_neg h10, if_pos h16]; done) | rfl
            rw [e] at hk
            exact ro_w_lv (ro_sub_c rfl (ro_sub_c rfl (ro_sub_c rfl (ro_sub_c rfl (ro_sub_c rfl (ro_sub_n rfl)))))) (ih hL  hp hk)
          · have hp := hp.2 h16
            refine rs_aload_n ri_236_119 rfl rfl ?_
            refine rs_iload ri_236_120 rfl rfl ?_
            refine rs_pf (M2 := (ro_sI M 163 30 v4)) ri_236_122 rfl (by decide) (ro_kf (kd_163 hL)) (fun h => absurd h (by decide)) (fun f h => h) ?_
            refine rs_goto (t := 195) ri_236_125 rfl ?_
            refine rs_iinc (v := (v4 + (1 : Int32))) (lv2 := [(4, .int (v4 + (1 : Int32))), (7, .int (0 : Int32)), (6, .int ((ro_irem (xf_238 M v1 v4) (20 : Int32)) / (2 : Int32))), (5, .int ((xf_238 M v1 v4) / (20 : Int32))), (3, .int v3), (0, .ref 163), (1, .int v1), (2, .int v2)]) ri_236_195 rfl rfl rfl rm_236.1 (by decide) rfl ?_
            refine rs_goto (t := 30) ri_236_198 rfl ?_
            have e : xg_236_30 (n + 1) M v4 v3 v1 v2 = xg_236_30 n (ro_sI M 163 30 v4) (v4 + (1 : Int32)) v3 v1 v2 := by rw [xg_236_30]; first | (simp only [if_neg h3, if_neg h7, if_neg h10, if_neg h16]; done) | rfl
            rw [e] at hk
            exact ro_w_lv (ro_sub_c rfl (ro_sub_c rfl (ro_sub_c rfl (ro_sub_c rfl (ro_sub_c rfl (ro_sub_n rfl)))))) (ih hL  hp hk)
      · have hp := hp.1 h7
        refine rs_iconst (v := (1 : Int32)) ri_236_75 rfl (by decide) ?_
        refine rs_goto (t := 80) ri_236_76 rfl ?_
        refine rs_istore (lv2 := [(7, .int (1 : Int32)), (6, .int ((ro_irem (xf_238 M v1 v4) (20 : Int32)) / (2 : Int32))), (5, .int ((xf_238 M v1 v4) / (20 : Int32))), (4, .int v4), (3, .int v3), (0, .ref 163), (1, .int v1), (2, .int v2)]) ri_236_80 rfl rm_236.1 (by decide) rfl ?_
        refine rs_iload ri_236_82 rfl rfl ?_
        refine rs_if_eq (t := 101) ri_236_84 rfl rfl (fun h17 => absurd h17 (by decide)) (fun h17 => ?_)
        refine rs_aload_n ri_236_87 rfl rfl ?_
        refine rs_iload ri_236_88 rfl rfl ?_
        refine rs_iload ri_236_90 rfl rfl ?_
        obtain ⟨q17, hp⟩ := hp
        refine rs_virt (As := [.int ((xf_238 M v1 v4) / (20 : Int32)), .int ((ro_irem (xf_238 M v1 v4) (20 : Int32)) / (2 : Int32))]) (r := []) ri_236_92 rfl (by decide) rm_240.2.2.2 rm_240.2.2.1 rfl rfl rfl (by decide) (ro_kf (kd_163 hL)) (Nat.le_of_ble_eq_true rfl) (by decide) (by decide) (xs_240 (X := X) hL q17) ?_
        rintro _ _ ⟨e1, e2⟩
        rw [e1, e2]
        show ro_w X _ 236 _ 95 [(7, .int (1 : Int32)), (6, .int ((ro_irem (xf_238 M v1 v4) (20 : Int32)) / (2 : Int32))), (5, .int ((xf_238 M v1 v4) / (20 : Int32))), (4, .int v4), (3, .int v3), (0, .ref 163), (1, .int v1), (2, .int v2)] [.int (ro_b (xf_240 M ((xf_238 M v1 v4) / (20 : Int32)) ((ro_irem (xf_238 M v1 v4) (20 : Int32)) / (2 : Int32))))] M (0, 0)
        refine rs_ifne_c (t := 128) ri_236_95 rfl rfl (fun h19 => ?_) (fun h19 => ?_)
        · have hp := hp.1 h19
          refine rs_iload ri_236_128 rfl rfl ?_
          refine rs_if_eq (t := 144) ri_236_130 rfl rfl (fun h20 => absurd h20 (by decide)) (fun h20 => ?_)
          refine rs_aload_n ri_236_133 rfl rfl ?_
          refine rs_iload ri_236_134 rfl rfl ?_
          refine rs_iload ri_236_136 rfl rfl ?_
          obtain ⟨q20, hp⟩ := hp
          refine rs_virt (As := [.int ((xf_238 M v1 v4) / (20 : Int32)), .int ((ro_irem (xf_238 M v1 v4) (20 : Int32)) / (2 : Int32))]) (r := []) ri_236_138 rfl (by decide) rm_242.2.2.2 rm_242.2.2.1 rfl rfl rfl (by decide) (ro_kf (kd_163 hL)) (Nat.le_of_ble_eq_true rfl) (by decide) (by decide) (xs_242 (X := X) hL q20) ?_
          rintro _ _ ⟨e1, e2⟩
          rw [e1, e2]
          show ro_w X _ 236 _ 141 [(7, .int (1 : Int32)), (6, .int ((ro_irem (xf_238 M v1 v4) (20 : Int32)) / (2 : Int32))), (5, .int ((xf_238 M v1 v4) / (20 : Int32))), (4, .int v4), (3, .int v3), (0, .ref 163), (1, .int v1), (2, .int v2)] [] (xm_242 M ((xf_238 M v1 v4) / (20 : Int32)) ((ro_irem (xf_238 M v1 v4) (20 : Int32)) / (2 : Int32))) (0, 0)
          refine rs_goto (t := 195) ri_236_141 rfl ?_
          refine rs_iinc (v := (v4 + (1 : Int32))) (lv2 := [(4, .int (v4 + (1 : Int32))), (7, .int (1 : Int32)), (6, .int ((ro_irem (xf_238 M v1 v4) (20 : Int32)) / (2 : Int32))), (5, .int ((xf_238 M v1 v4) / (20 : Int32))), (3, .int v3), (0, .ref 163), (1, .int v1), (2, .int v2)]) ri_236_195 rfl rfl rfl rm_236.1 (by decide) rfl ?_
          refine rs_goto (t := 30) ri_236_198 rfl ?_
          have e : xg_236_30 (n + 1) M v4 v3 v1 v2 = xg_236_30 n (xm_242 M ((xf_238 M v1 v4) / (20 : Int32)) ((ro_irem (xf_238 M v1 v4) (20 : Int32)) / (2 : Int32))) (v4 + (1 : Int32)) v3 v1 v2 := by rw [xg_236_30]; first | (simp only [if_neg h3, if_pos h7, if_pos h19]; done) | rfl
          rw [e] at hk
          exact ro_w_lv (ro_sub_c rfl (ro_sub_c rfl (ro_sub_c rfl (ro_sub_c rfl (ro_sub_c rfl (ro_sub_n rfl)))))) (ih (xl_242 hL q20)  hp hk)
        · have hp := hp.2 h19
          refine rs_goto (t := 112) ri_236_98 rfl ?_
          refine rs_aload_n ri_236_112 rfl rfl ?_
          refine rs_gf (v := .int (M.2.1 163 30)) ri_236_113 rfl (by decide) (ro_kf (kd_163 hL)) rfl rfl ?_
          refine rs_if_ge (t := 195) ri_236_116 rfl rfl (fun h22 => ?_) (fun h22 => ?_)
          · have hp := hp.1 h22
            refine rs_iinc (v := (v4 + (1 : Int32))) (lv2 := [(4, .int (v4 + (1 : Int32))), (7, .int (1 : Int32)), (6, .int ((ro_irem (xf_238 M v1 v4) (20 : Int32)) / (2 : Int32))), (5, .int ((xf_238 M v1 v4) / (20 : Int32))), (3, .int v3), (0, .ref 163), (1, .int v1), (2, .int v2)]) ri_236_195 rfl rfl rfl rm_236.1 (by decide) rfl ?_
            refine rs_goto (t := 30) ri_236_198 rfl ?_
            have e : xg_236_30 (n + 1) M v4 v3 v1 v2 = xg_236_30 n M (v4 + (1 : Int32)) v3 v1 v2 := by rw [xg_236_30]; first | (simp only [if_neg h3, if_pos h7, if_neg h19, if_pos h22]; done) | rfl
            rw [e] at hk
            exact ro_w_lv (ro_sub_c rfl (ro_sub_c rfl (ro_sub_c rfl (ro_sub_c rfl (ro_sub_c rfl (ro_sub_n rfl)))))) (ih hL  hp hk)
          · have hp := hp.2 h22
            refine rs_aload_n ri_236_119 rfl rfl ?_
            refine rs_iload ri_236_120 rfl rfl ?_
            refine rs_pf (M2 := (ro_sI M 163 30 v4)) ri_236_122 rfl (by decide) (ro_kf (kd_163 hL)) (fun h => absurd h (by decide)) (fun f h => h) ?_
            refine rs_goto (t := 195) ri_236_125 rfl ?_
            refine rs_iinc (v := (v4 + (1 : Int32))) (lv2 := [(4, .int (v4 + (1 : Int32))), (7, .int (1 : Int32)), (6, .int ((ro_irem (xf_238 M v1 v4) (20 : Int32)) / (2 : Int32))), (5, .int ((xf_238 M v1 v4) / (20 : Int32))), (3, .int v3), (0, .ref 163), (1, .int v1), (2, .int v2)]) ri_236_195 rfl rfl rfl rm_236.1 (by decide) rfl ?_
            refine rs_goto (t := 30) ri_236_198 rfl ?_
            have e : xg_236_30 (n + 1) M v4 v3 v1 v2 = xg_236_30 n (ro_sI M 163 30 v4) (v4 + (1 : Int32)) v3 v1 v2 := by rw [xg_236_30]; first | (simp only [if_neg h3, if_pos h7, if_neg h19, if_neg h22]; done) | rfl
            rw [e] at hk
            exact ro_w_lv (ro_sub_c rfl (ro_sub_c rfl (ro_sub_c rfl (ro_sub_c rfl (ro_sub_c rfl (ro_sub_n rfl)))))) (ih hL  hp hk)
theorem xl_236_30 : ∀ (n : Nat) {M : ro_Mm} {v4 : Int32} {v3 : Int32} {v1 : Int32} {v2 : Int32} (hL : ro_lay M) (hp : xq_236_30 n M v4 v3 v1 v2), ro_lay (xg_236_30 n M v4 v3 v1 v2).2 := by
  intro n
  induction n with
  | zero => intro M v4 v3 v1 v2 hL hp; exact False.elim hp
  | succ n ih =>
    intro M v4 v3 v1 v2 hL hp
    rw [xq_236_30] at hp
    rw [xg_236_30]
    by_cases hz : v3 ≤ v4
    · have hp := hp.1 hz
      rw [if_pos hz]
      exact hL
    · have hp := hp.2 hz
      rw [if_neg hz]
      obtain ⟨q3, hp⟩ := hp
      obtain ⟨q4, hp⟩ := hp
      obtain ⟨q5, hp⟩ := hp
      by_cases hz : (ro_irem (xf_238 M v1 v4) (2 : Int32)) = (1 : Int32)
      · have hp := hp.1 hz
        rw [if_pos hz]
        obtain ⟨q17, hp⟩ := hp
        by_cases hz : (xf_240 M ((xf_238 M v1 v4) / (20 : Int32)) ((ro_irem (xf_238 M v1 v4) (20 : Int32)) / (2 : Int32)))
        · have hp := hp.1 hz
          rw [if_pos hz]
          obtain ⟨q20, hp⟩ := hp
          exact ih (xl_242 hL q20)  hp
        · have hp := hp.2 hz
          rw [if_neg hz]
          by_cases hz : (0 : Int32) ≤ (M.2.1 163 30)
          · have hp := hp.1 hz
            rw [if_pos hz]
            exact ih hL  hp
          · have hp := hp.2 hz
            rw [if_neg hz]
            exact ih hL  hp
      · have hp := hp.2 hz
        rw [if_neg hz]
        obtain ⟨q8, hp⟩ := hp
        by_cases hz : (xf_241 M ((xf_238 M v1 v4) / (20 : Int32)) ((ro_irem (xf_238 M v1 v4) (20 : Int32)) / (2 : Int32)))
        · have hp := hp.1 hz
          rw [if_pos hz]
          obtain ⟨q11, hp⟩ := hp
          by_cases hz : (xf_243 M ((xf_238 M v1 v4) / (20 : Int32)) ((ro_irem (xf_238 M v1 v4) (20 : Int32)) / (2 : Int32)))
          · have hp := hp.1 hz
            rw [if_pos hz]
            obtain ⟨q14, hp⟩ := hp
            exact ih (xl_244 (xl_243 hL q11) q14)  hp
          · have hp := hp.2 hz
            rw [if_neg hz]
            obtain ⟨q13, hp⟩ := hp
            exact ih (xl_245 (xl_243 hL q11) q13)  hp
        · have hp := hp.2 hz
          rw [if_neg hz]
          by_cases hz : (0 : Int32) ≤ (M.2.1 163 30)
          · have hp := hp.1 hz
            rw [if_pos hz]
            exact ih hL  hp
          · have hp := hp.2 hz
            rw [if_neg hz]
            exact ih hL  hp
theorem xwI_236_30 : ∀ {n : Nat} {M : ro_Mm} {v4 : Int32} {v3 : Int32} {v1 : Int32} {v2 : Int32} {c j : Nat} (n0 : c ≠ 179) (n1 : c ≠ 180) (n2 : c ≠ 181) (n3 : c ≠ 182) (n4 : c ≠ 163), (xg_236_30 n M v4 v3 v1 v2).2.2.1 c j = M.2.1 c j := by
  intro n
  induction n with
  | zero => intro M v4 v3 v1 v2 c j n0 n1 n2 n3 n4; rfl
  | succ n ih =>
    intro M v4 v3 v1 v2 c j n0 n1 n2 n3 n4
    rw [xg_236_30]
    by_cases hz : v3 ≤ v4
    · rw [if_pos hz]
      first | done | exact rfl
    · rw [if_neg hz]
      by_cases hz : (ro_irem (xf_238 M v1 v4) (2 : Int32)) = (1 : Int32)
      · rw [if_pos hz]
        by_cases hz : (xf_240 M ((xf_238 M v1 v4) / (20 : Int32)) ((ro_irem (xf_238 M v1 v4) (20 : Int32)) / (2 : Int32)))
        · rw [if_pos hz]
          first | done | exact (((ih n0 n1 n2 n3 n4)).trans (xwI_242 n3))
        · rw [if_neg hz]
          by_cases hz : (0 : Int32) ≤ (M.2.1 163 30)
          · rw [if_pos hz]
            first | done | exact (ih n0 n1 n2 n3 n4)
          · rw [if_neg hz]
            first | done | exact (((ih n0 n1 n2 n3 n4)).trans (ro_sI_ne n4))
      · rw [if_neg hz]
        by_cases hz : (xf_241 M ((xf_238 M v1 v4) / (20 : Int32)) ((ro_irem (xf_238 M v1 v4) (20 : Int32)) / (2 : Int32)))
        · rw [if_pos hz]
          by_cases hz : (xf_243 M ((xf_238 M v1 v4) / (20 : Int32)) ((ro_irem (xf_238 M v1 v4) (20 : Int32)) / (2 : Int32)))
          · rw [if_pos hz]
            first | done | exact ((((((ih n0 n1 n2 n3 n4)).trans (ro_sI_ne n4)).trans (ro_sI_ne n4)).trans (xwI_244 n2 n3)).trans (xwI_243 n0 n1))
          · rw [if_neg hz]
            first | done | exact ((((ih n0 n1 n2 n3 n4)).trans (xwI_245 n2)).trans (xwI_243 n0 n1))
        · rw [if_neg hz]
          by_cases hz : (0 : Int32) ≤ (M.2.1 163 30)
          · rw [if_pos hz]
            first | done | exact (ih n0 n1 n2 n3 n4)
          · rw [if_neg hz]
            first | done | exact (((ih n0 n1 n2 n3 n4)).trans (ro_sI_ne n4))
theorem xwJ_236_30 : ∀ {n : Nat} {M : ro_Mm} {v4 : Int32} {v3 : Int32} {v1 : Int32} {v2 : Int32} {c j : Nat}, (xg_236_30 n M v4 v3 v1 v2).2.2.2.1 c j = M.2.2.1 c j := by
  intro n
  induction n with
  | zero => intro M v4 v3 v1 v2 c j; rfl
  | succ n ih =>
    intro M v4 v3 v1 v2 c j
    rw [xg_236_30]
    by_cases hz : v3 ≤ v4
    · rw [if_pos hz]
      first | done | exact rfl
    · rw [if_neg hz]
      by_cases hz : (ro_irem (xf_238 M v1 v4) (2 : Int32)) = (1 : Int32)
      · rw [if_pos hz]
        by_cases hz : (xf_240 M ((xf_238 M v1 v4) / (20 : Int32)) ((ro_irem (xf_238 M v1 v4) (20 : Int32)) / (2 : Int32)))
        · rw [if_pos hz]
          first | done | exact (((ih)).trans (xwJ_242))
        · rw [if_neg hz]
          by_cases hz : (0 : Int32) ≤ (M.2.1 163 30)
          · rw [if_pos hz]
            first | done | exact (ih)
          · rw [if_neg hz]
            first | done | exact (((ih)).trans (congrFun (congrFun ro_sI_J _) _))
      · rw [if_neg hz]
        by_cases hz : (xf_241 M ((xf_238 M v1 v4) / (20 : Int32)) ((ro_irem (xf_238 M v1 v4) (20 : Int32)) / (2 : Int32)))
        · rw [if_pos hz]
          by_cases hz : (xf_243 M ((xf_238 M v1 v4) / (20 : Int32)) ((ro_irem (xf_238 M v1 v4) (20 : Int32)) / (2 : Int32)))
          · rw [if_pos hz]
            first | done | exact ((((((ih)).trans (congrFun (congrFun ro_sI_J _) _)).trans (congrFun (congrFun ro_sI_J _) _)).trans (xwJ_244)).trans (xwJ_243))
          · rw [if_neg hz]
            first | done | exact ((((ih)).trans (xwJ_245)).trans (xwJ_243))
        · rw [if_neg hz]
          by_cases hz : (0 : Int32) ≤ (M.2.1 163 30)
          · rw [if_pos hz]
            first | done | exact (ih)
          · rw [if_neg hz]
            first | done | exact (((ih)).trans (congrFun (congrFun ro_sI_J _) _))
/-- RefusedOnceModel.goEvening(II)V -/
noncomputable def xm_236 (M : ro_Mm) (v1 : Int32) (v2 : Int32) : ro_Mm := (xg_236_30 lp_N (ro_sI (ro_sI (ro_sI (xm_228 M) 163 29 (0 : Int32)) 163 30 (-2 : Int32)) 163 31 (0 : Int32)) (0 : Int32) (xf_237 (ro_sI (ro_sI (ro_sI (xm_228 M) 163 29 (0 : Int32)) 163 30 (-2 : Int32)) 163 31 (0 : Int32)) v1 v2) v1 v2).2
def xp_236 (M : ro_Mm) (v1 : Int32) (v2 : Int32) : Prop := (xp_228 M ∧ (xp_237 (ro_sI (ro_sI (ro_sI (xm_228 M) 163 29 (0 : Int32)) 163 30 (-2 : Int32)) 163 31 (0 : Int32)) v1 v2 ∧ (xq_236_30 lp_N (ro_sI (ro_sI (ro_sI (xm_228 M) 163 29 (0 : Int32)) 163 30 (-2 : Int32)) 163 31 (0 : Int32)) (0 : Int32) (xf_237 (ro_sI (ro_sI (ro_sI (xm_228 M) 163 29 (0 : Int32)) 163 30 (-2 : Int32)) 163 31 (0 : Int32)) v1 v2) v1 v2 ∧ True)))
theorem xs_236 {X : ro_Sx} {M : ro_Mm} {v1 : Int32} {v2 : Int32} (hL : ro_lay M) (hp : xp_236 M v1 v2) : ro_cwp X 6 236 [.ref 163, .int v1, .int v2] M (fun v M2 => v = none ∧ M2 = xm_236 M v1 v2) := by
  refine rs_begin (lv0 := [(0, .ref 163), (1, .int v1), (2, .int v2)]) (by decide) rfl (by rw [rm_236.1]; exact Nat.le_of_ble_eq_true rfl) rfl ?_
  unfold xp_236 at hp
  refine rs_aload_n ri_236_0 rfl rfl ?_
  obtain ⟨q0, hp⟩ := hp
  refine rs_virt (As := []) (r := []) ri_236_1 rfl (by decide) rm_228.2.2.2 rm_228.2.2.1 rfl rfl rfl (by decide) (ro_kf (kd_163 hL)) (Nat.le_of_ble_eq_true rfl) (by decide) (by decide) (xs_228 (X := X) hL q0) ?_
  rintro _ _ ⟨e1, e2⟩
  rw [e1, e2]
  show ro_w X _ 236 _ 4 [(0, .ref 163), (1, .int v1), (2, .int v2)] [] (xm_228 M) (0, 0)
  refine rs_aload_n ri_236_4 rfl rfl ?_
  refine rs_iconst (v := (0 : Int32)) ri_236_5 rfl (by decide) ?_
  refine rs_pf (M2 := (ro_sI (xm_228 M) 163 29 (0 : Int32))) ri_236_6 rfl (by decide) (ro_kf (kd_163 (xl_228 hL q0))) (fun h => absurd h (by decide)) (fun f h => h) ?_
  refine rs_aload_n ri_236_9 rfl rfl ?_
  refine rs_bipush (v := (-2 : Int32)) ri_236_10 rfl (by decide) ?_
  refine rs_pf (M2 := (ro_sI (ro_sI (xm_228 M) 163 29 (0 : Int32)) 163 30 (-2 : Int32))) ri_236_12 rfl (by decide) (ro_kf (kd_163 (xl_228 hL q0))) (fun h => absurd h (by decide)) (fun f h => h) ?_
  refine rs_aload_n ri_236_15 rfl rfl ?_
  refine rs_iconst (v := (0 : Int32)) ri_236_16 rfl (by decide) ?_
  refine rs_pf (M2 := (ro_sI (ro_sI (ro_sI (xm_228 M) 163 29 (0 : Int32)) 163 30 (-2 : Int32)) 163 31 (0 : Int32))) ri_236_17 rfl (by decide) (ro_kf (kd_163 (xl_228 hL q0))) (fun h => absurd h (by decide)) (fun f h => h) ?_
  refine rs_aload_n ri_236_20 rfl rfl ?_
  refine rs_iload_n ri_236_21 rfl rfl ?_
  refine rs_iload_n ri_236_22 rfl rfl ?_
  obtain ⟨q1, hp⟩ := hp
  refine rs_virt (As := [.int v1, .int v2]) (r := []) ri_236_23 rfl (by decide) rm_237.2.2.2 rm_237.2.2.1 rfl rfl rfl (by decide) (ro_kf (kd_163 (xl_228 hL q0))) (Nat.le_of_ble_eq_true rfl) (by decide) (by decide) (xs_237 (X := X) (xl_228 hL q0) q1) ?_
  rintro _ _ ⟨e1, e2⟩
  rw [e1, e2]
  show ro_w X _ 236 _ 26 [(0, .ref 163), (1, .int v1), (2, .int v2)] [.int (xf_237 (ro_sI (ro_sI (ro_sI (xm_228 M) 163 29 (0 : Int32)) 163 30 (-2 : Int32)) 163 31 (0 : Int32)) v1 v2)] (ro_sI (ro_sI (ro_sI (xm_228 M) 163 29 (0 : Int32)) 163 30 (-2 : Int32)) 163 31 (0 : Int32)) (0, 0)
  refine rs_istore_n (lv2 := [(3, .int (xf_237 (ro_sI (ro_sI (ro_sI (xm_228 M) 163 29 (0 : Int32)) 163 30 (-2 : Int32)) 163 31 (0 : Int32)) v1 v2)), (0, .ref 163), (1, .int v1), (2, .int v2)]) ri_236_26 rfl rm_236.1 (by decide) rfl ?_
  refine rs_iconst (v := (0 : Int32)) ri_236_27 rfl (by decide) ?_
  refine rs_istore (lv2 := [(4, .int (0 : Int32)), (3, .int (xf_237 (ro_sI (ro_sI (ro_sI (xm_228 M) 163 29 (0 : Int32)) 163 30 (-2 : Int32)) 163 31 (0 : Int32)) v1 v2)), (0, .ref 163), (1, .int v1), (2, .int v2)]) ri_236_28 rfl rm_236.1 (by decide) rfl ?_
  obtain ⟨q22, hp⟩ := hp
  refine xt_236_30 lp_N (xl_228 hL q0) q22 ?_
  refine rs_ret ri_236_201 rm_236.2.1 (by decide) ?_
  exact ⟨by rfl, by rfl⟩
theorem xl_236 {M : ro_Mm} {v1 : Int32} {v2 : Int32} (hL : ro_lay M) (hp : xp_236 M v1 v2) : ro_lay (xm_236 M v1 v2) := by
  unfold xp_236 at hp
  unfold xm_236
  obtain ⟨q0, hp⟩ := hp
  obtain ⟨q1, hp⟩ := hp
  obtain ⟨q22, hp⟩ := hp
  exact (xl_236_30 lp_N (xl_228 hL q0) q22)
theorem xwI_236 {M : ro_Mm} {v1 : Int32} {v2 : Int32} {c j : Nat} (n0 : c ≠ 181) (n1 : c ≠ 182) (n2 : c ≠ 163) (n3 : c ≠ 179) (n4 : c ≠ 180) : (xm_236 M v1 v2).2.1 c j = M.2.1 c j := by
  unfold xm_236
  first | done | exact ((((((xwI_236_30 n3 n4 n0 n1 n2)).trans (ro_sI_ne n2)).trans (ro_sI_ne n2)).trans (ro_sI_ne n2)).trans (xwI_228 n0 n1))
theorem xwJ_236 {M : ro_Mm} {v1 : Int32} {v2 : Int32} {c j : Nat} : (xm_236 M v1 v2).2.2.1 c j = M.2.2.1 c j := by
  unfold xm_236
  first | done | exact ((((((xwJ_236_30)).trans (congrFun (congrFun ro_sI_J _) _)).trans (congrFun (congrFun ro_sI_J _) _)).trans (congrFun (congrFun ro_sI_J _) _)).trans (xwJ_228))
/-- RefusedOnceModel.evening(III)I -/
noncomputable def xf_246 (M : ro_Mm) (v1 : Int32) (v2 : Int32) (v3 : Int32) : Int32 := (if (xf_198 M v1) then (if (xf_234 M v2) then (if (xf_195 M v3 (0 : Int32) (2 : Int32)) then (if (0 : Int32) ≤ (xf_235 M v1) then (if v3 = (0 : Int32) then ((xm_236 M v1 v2).2.1 163 29) else (if v3 = (1 : Int32) then ((xm_236 M v1 v2).2.1 163 30) else ((xm_236 M v1 v2).2.1 163 31))) else (xf_235 M v1)) else (-1 : Int32)) else (-1 : Int32)) else (-1 : Int32))
noncomputable def xm_246 (M : ro_Mm) (v1 : Int32) (v2 : Int32) (v3 : Int32) : ro_Mm := (if (xf_198 M v1) then (if (xf_234 M v2) then (if (xf_195 M v3 (0 : Int32) (2 : Int32)) then (if (0 : Int32) ≤ (xf_235 M v1) then (xm_236 M v1 v2) else M) else M) else M) else M)
def xp_246 (M : ro_Mm) (v1 : Int32) (v2 : Int32) (v3 : Int32) : Prop := (((xf_198 M v1) → (((xf_234 M v2) → (((xf_195 M v3 (0 : Int32) (2 : Int32)) → (xp_235 M v1 ∧ (((0 : Int32) ≤ (xf_235 M v1) → (xp_236 M v1 v2 ∧ True)) ∧ (¬ ((0 : Int32) ≤ (xf_235 M v1)) → (xp_235 M v1 ∧ True))))) ∧ (¬ ((xf_195 M v3 (0 : Int32) (2 : Int32))) → True))) ∧ (¬ ((xf_234 M v2)) → True))) ∧ (¬ ((xf_198 M v1)) → True))
theorem xs_246 {X : ro_Sx} {M : ro_Mm} {v1 : Int32} {v2 : Int32} {v3 : Int32} (hL : ro_lay M) (hp : xp_246 M v1 v2 v3) : ro_cwp X 7 246 [.ref 163, .int v1, .int v2, .int v3] M (fun v M2 => v = some (.int (xf_246 M v1 v2 v3)) ∧ M2 = xm_246 M v1 v2 v3) := by
  refine rs_begin (lv0 := [(0, .ref 163), (1, .int v1), (2, .int v2), (3, .int v3)]) (by decide) rfl (by rw [rm_246.1]; exact Nat.le_of_ble_eq_true rfl) rfl ?_
  unfold xp_246 at hp
  refine rs_iload_n ri_246_0 rfl rfl ?_
  refine rs_stat (As := [.int v1]) (r := []) ri_246_1 rfl rm_198.2.2.2 rfl rfl rfl (Nat.le_of_ble_eq_true rfl) (by decide) (by decide) (xs_198 (X := X) hL) ?_
  rintro _ _ ⟨e1, e2⟩
  rw [e1, e2]
  show ro_w X _ 246 _ 4 [(0, .ref 163), (1, .int v1), (2, .int v2), (3, .int v3)] [.int (ro_b (xf_198 M v1))] M (0, 0)
  refine rs_ifeq_c (t := 23) ri_246_4 rfl rfl (fun h1 => ?_) (fun h1 => ?_)
  · have hp := hp.2 h1
    refine rs_iconst (v := (-1 : Int32)) ri_246_23 rfl (by decide) ?_
    refine rs_iret ri_246_24 rm_246.2.1 (by decide) ?_
    exact ⟨by unfold xf_246; first | (simp only [if_neg h1]; done) | rfl, by unfold xm_246; first | (simp only [if_neg h1]; done) | rfl⟩
  · have hp := hp.1 h1
    refine rs_iload_n ri_246_7 rfl rfl ?_
    refine rs_stat (As := [.int v2]) (r := []) ri_246_8 rfl rm_234.2.2.2 rfl rfl rfl (Nat.le_of_ble_eq_true rfl) (by decide) (by decide) (xs_234 (X := X) hL) ?_
    rintro _ _ ⟨e1, e2⟩
    rw [e1, e2]
    show ro_w X _ 246 _ 11 [(0, .ref 163), (1, .int v1), (2, .int v2), (3, .int v3)] [.int (ro_b (xf_234 M v2))] M (0, 0)
    refine rs_ifeq_c (t := 23) ri_246_11 rfl rfl (fun h2 => ?_) (fun h2 => ?_)
    · have hp := hp.2 h2
      refine rs_iconst (v := (-1 : Int32)) ri_246_23 rfl (by decide) ?_
      refine rs_iret ri_246_24 rm_246.2.1 (by decide) ?_
      exact ⟨by unfold xf_246; first | (simp only [if_pos h1, if_neg h2]; done) | rfl, by unfold xm_246; first | (simp only [if_pos h1, if_neg h2]; done) | rfl⟩
    · have hp := hp.1 h2
      refine rs_iload_n ri_246_14 rfl rfl ?_
      refine rs_iconst (v := (0 : Int32)) ri_246_15 rfl (by decide) ?_
      refine rs_iconst (v := (2 : Int32)) ri_246_16 rfl (by decide) ?_
      refine rs_stat (As := [.int v3, .int (0 : Int32), .int (2 : Int32)]) (r := []) ri_246_17 rfl rm_195.2.2.2 rfl rfl rfl (Nat.le_of_ble_eq_true rfl) (by decide) (by decide) (xs_195 (X := X) hL) ?_
      rintro _ _ ⟨e1, e2⟩
      rw [e1, e2]
      show ro_w X _ 246 _ 20 [(0, .ref 163), (1, .int v1), (2, .int v2), (3, .int v3)] [.int (ro_b (xf_195 M v3 (0 : Int32) (2 : Int32)))] M (0, 0)
      refine rs_ifne_c (t := 25) ri_246_20 rfl rfl (fun h3 => ?_) (fun h3 => ?_)
      · have hp := hp.1 h3
        refine rs_aload_n ri_246_25 rfl rfl ?_
        refine rs_iload_n ri_246_26 rfl rfl ?_
        obtain ⟨q3, hp⟩ := hp
        refine rs_virt (As := [.int v1]) (r := []) ri_246_27 rfl (by decide) rm_235.2.2.2 rm_235.2.2.1 rfl rfl rfl (by decide) (ro_kf (kd_163 hL)) (Nat.le_of_ble_eq_true rfl) (by decide) (by decide) (xs_235 (X := X) hL q3) ?_
        rintro _ _ ⟨e1, e2⟩
        rw [e1, e2]
        show ro_w X _ 246 _ 30 [(0, .ref 163), (1, .int v1), (2, .int v2), (3, .int v3)] [.int (xf_235 M v1)] M (0, 0)
        refine rs_if_ge (t := 39) ri_246_30 rfl rfl (fun h5 => ?_) (fun h5 => ?_)
        · have hp := hp.1 h5
          refine rs_aload_n ri_246_39 rfl rfl ?_
          refine rs_iload_n ri_246_40 rfl rfl ?_
          refine rs_iload_n ri_246_41 rfl rfl ?_
          obtain ⟨q5, hp⟩ := hp
          refine rs_virt (As := [.int v1, .int v2]) (r := []) ri_246_42 rfl (by decide) rm_236.2.2.2 rm_236.2.2.1 rfl rfl rfl (by decide) (ro_kf (kd_163 hL)) (Nat.le_of_ble_eq_true rfl) (by decide) (by decide) (xs_236 (X := X) hL q5) ?_
          rintro _ _ ⟨e1, e2⟩
          rw [e1, e2]
          show ro_w X _ 246 _ 45 [(0, .ref 163), (1, .int v1), (2, .int v2), (3, .int v3)] [] (xm_236 M v1 v2) (0, 0)
          refine rs_iload_n ri_246_45 rfl rfl ?_
          refine rs_if_ne (t := 56) ri_246_46 rfl rfl (fun h7 => ?_) (fun h7 => ?_)
          · skip
            refine rs_iload_n ri_246_56 rfl rfl ?_
            refine rs_iconst (v := (1 : Int32)) ri_246_57 rfl (by decide) ?_
            refine rs_icmp_ne (t := 68) ri_246_58 rfl rfl (fun h8 => ?_) (fun h8 => ?_)
            · skip
              refine rs_aload_n ri_246_68 rfl rfl ?_
              refine rs_gf (v := .int ((xm_236 M v1 v2).2.1 163 31)) ri_246_69 rfl (by decide) (ro_kf (kd_163 (xl_236 hL q5))) rfl rfl ?_
              refine rs_iret ri_246_72 rm_246.2.1 (by decide) ?_
              exact ⟨by unfold xf_246; first | (simp only [if_pos h1, if_pos h2, if_pos h3, if_pos h5, if_neg h7, if_neg h8]; done) | rfl, by unfold xm_246; first | (simp only [if_pos h1, if_pos h2, if_pos h3, if_pos h5, if_neg h7, if_neg h8]; done) | rfl⟩
            · skip
              refine rs_aload_n ri_246_61 rfl rfl ?_
              refine rs_gf (v := .int ((xm_236 M v1 v2).2.1 163 30)) ri_246_62 rfl (by decide) (ro_kf (kd_163 (xl_236 hL q5))) rfl rfl ?_
              refine rs_goto (t := 72) ri_246_65 rfl ?_
              refine rs_iret ri_246_72 rm_246.2.1 (by decide) ?_
              exact ⟨by unfold xf_246; first | (simp only [if_pos h1, if_pos h2, if_pos h3, if_pos h5, if_neg h7, if_pos h8]; done) | rfl, by unfold xm_246; first | (simp only [if_pos h1, if_pos h2, if_pos h3, if_pos h5, if_neg h7, if_pos h8]; done) | rfl⟩
          · skip
            refine rs_aload_n ri_246_49 rfl rfl ?_
            refine rs_gf (v := .int ((xm_236 M v1 v2).2.1 163 29)) ri_246_50 rfl (by decide) (ro_kf (kd_163 (xl_236 hL q5))) rfl rfl ?_
            refine rs_goto (t := 72) ri_246_53 rfl ?_
            refine rs_iret ri_246_72 rm_246.2.1 (by decide) ?_
            exact ⟨by unfold xf_246; first | (simp only [if_pos h1, if_pos h2, if_pos h3, if_pos h5, if_pos h7]; done) | rfl, by unfold xm_246; first | (simp only [if_pos h1, if_pos h2, if_pos h3, if_pos h5, if_pos h7]; done) | rfl⟩
        · have hp := hp.2 h5
          refine rs_aload_n ri_246_33 rfl rfl ?_
          refine rs_iload_n ri_246_34 rfl rfl ?_
          obtain ⟨q8, hp⟩ := hp
          refine rs_virt (As := [.int v1]) (r := []) ri_246_35 rfl (by decide) rm_235.2.2.2 rm_235.2.2.1 rfl rfl rfl (by decide) (ro_kf (kd_163 hL)) (Nat.le_of_ble_eq_true rfl) (by decide) (by decide) (xs_235 (X := X) hL q8) ?_
          rintro _ _ ⟨e1, e2⟩
          rw [e1, e2]
          show ro_w X _ 246 _ 38 [(0, .ref 163), (1, .int v1), (2, .int v2), (3, .int v3)] [.int (xf_235 M v1)] M (0, 0)
          refine rs_iret ri_246_38 rm_246.2.1 (by decide) ?_
          exact ⟨by unfold xf_246; first | (simp only [if_pos h1, if_pos h2, if_pos h3, if_neg h5]; done) | rfl, by unfold xm_246; first | (simp only [if_pos h1, if_pos h2, if_pos h3, if_neg h5]; done) | rfl⟩
      · have hp := hp.2 h3
        refine rs_iconst (v := (-1 : Int32)) ri_246_23 rfl (by decide) ?_
        refine rs_iret ri_246_24 rm_246.2.1 (by decide) ?_
        exact ⟨by unfold xf_246; first | (simp only [if_pos h1, if_pos h2, if_neg h3]; done) | rfl, by unfold xm_246; first | (simp only [if_pos h1, if_pos h2, if_neg h3]; done) | rfl⟩
theorem xl_246 {M : ro_Mm} {v1 : Int32} {v2 : Int32} {v3 : Int32} (hL : ro_lay M) (hp : xp_246 M v1 v2 v3) : ro_lay (xm_246 M v1 v2 v3) := by
  unfold xp_246 at hp
  unfold xm_246
  by_cases hz : (xf_198 M v1)
  · have hp := hp.1 hz
    rw [if_pos hz]
    by_cases hz : (xf_234 M v2)
    · have hp := hp.1 hz
      rw [if_pos hz]
      by_cases hz : (xf_195 M v3 (0 : Int32) (2 : Int32))
      · have hp := hp.1 hz
        rw [if_pos hz]
        obtain ⟨q3, hp⟩ := hp
        by_cases hz : (0 : Int32) ≤ (xf_235 M v1)
        · have hp := hp.1 hz
          rw [if_pos hz]
          obtain ⟨q5, hp⟩ := hp
          by_cases hz : v3 = (0 : Int32)
          · skip
            exact (xl_236 hL q5)
          · skip
            by_cases hz : v3 = (1 : Int32)
            · skip
              exact (xl_236 hL q5)
            · skip
              exact (xl_236 hL q5)
        · have hp := hp.2 hz
          rw [if_neg hz]
          obtain ⟨q8, hp⟩ := hp
          exact hL
      · have hp := hp.2 hz
        rw [if_neg hz]
        exact hL
    · have hp := hp.2 hz
      rw [if_neg hz]
      exact hL
  · have hp := hp.2 hz
    rw [if_neg hz]
    exact hL
theorem xwI_246 {M : ro_Mm} {v1 : Int32} {v2 : Int32} {v3 : Int32} {c j : Nat} (n0 : c ≠ 181) (n1 : c ≠ 182) (n2 : c ≠ 163) (n3 : c ≠ 179) (n4 : c ≠ 180) : (xm_246 M v1 v2 v3).2.1 c j = M.2.1 c j := by
  unfold xm_246
  by_cases hz : (xf_198 M v1)
  · rw [if_pos hz]
    by_cases hz : (xf_234 M v2)
    · rw [if_pos hz]
      by_cases hz : (xf_195 M v3 (0 : Int32) (2 : Int32))
      · rw [if_pos hz]
        by_cases hz : (0 : Int32) ≤ (xf_235 M v1)
        · rw [if_pos hz]
          first | done | exact (xwI_236 n0 n1 n2 n3 n4)
        · rw [if_neg hz]
          first | done | exact rfl
      · rw [if_neg hz]
        first | done | exact rfl
    · rw [if_neg hz]
      first | done | exact rfl
  · rw [if_neg hz]
    first | done | exact rfl
theorem xwJ_246 {M : ro_Mm} {v1 : Int32} {v2 : Int32} {v3 : Int32} {c j : Nat} : (xm_246 M v1 v2 v3).2.2.1 c j = M.2.2.1 c j := by
  unfold xm_246
  by_cases hz : (xf_198 M v1)
  · rw [if_pos hz]
    by_cases hz : (xf_234 M v2)
    · rw [if_pos hz]
      by_cases hz : (xf_195 M v3 (0 : Int32) (2 : Int32))
      · rw [if_pos hz]
        by_cases hz : (0 : Int32) ≤ (xf_235 M v1)
        · rw [if_pos hz]
          first | done | exact (xwJ_236)
        · rw [if_neg hz]
          first | done | exact rfl
      · rw [if_neg hz]
        first | done | exact rfl
    · rw [if_neg hz]
      first | done | exact rfl
  · rw [if_neg hz]
    first | done | exact rfl
/-- a loop of RefusedOnceModel.round(II)I -/
noncomputable def xg_247_44 : Nat → ro_Mm → Int32 → Int32 → Int32 → Int32 → Int32 → Int32 → Int32 × Int32 × Int32 × ro_Mm
  | 0, M, v6, v5, v4, v3, v1, v2 => (v6, v5, v4, M)
  | n + 1, M, v6, v5, v4, v3, v1, v2 => (if ((1 : Int32) <<< (v3 &&& 31)) ≤ v6 then (v6, v5, v4, M) else (if (xf_249 M v1 v3 v6) < (0 : Int32) then (xg_247_44 n (xm_249 M v1 v3 v6) (v6 + (1 : Int32)) v5 v4 v3 v1 v2) else (if v4 < (0 : Int32) then (xg_247_44 n (xm_249 M v1 v3 v6) (v6 + (1 : Int32)) (xf_249 M v1 v3 v6) v6 v3 v1 v2) else (if (xf_249 M v1 v3 v6) < v5 then (xg_247_44 n (xm_249 M v1 v3 v6) (v6 + (1 : Int32)) (xf_249 M v1 v3 v6) v6 v3 v1 v2) else (xg_247_44 n (xm_249 M v1 v3 v6) (v6 + (1 : Int32)) v5 v4 v3 v1 v2)))))
def xq_247_44 : Nat → ro_Mm → Int32 → Int32 → Int32 → Int32 → Int32 → Int32 → Prop
  | 0, _, _, _, _, _, _, _ => False
  | n + 1, M, v6, v5, v4, v3, v1, v2 => ((((1 : Int32) <<< (v3 &&& 31)) ≤ v6 → True) ∧ (¬ (((1 : Int32) <<< (v3 &&& 31)) ≤ v6) → (xp_249 M v1 v3 v6 ∧ (((xf_249 M v1 v3 v6) < (0 : Int32) → (xq_247_44 n (xm_249 M v1 v3 v6) (v6 + (1 : Int32)) v5 v4 v3 v1 v2)) ∧ (¬ ((xf_249 M v1 v3 v6) < (0 : Int32)) → ((v4 < (0 : Int32) → (xq_247_44 n (xm_249 M v1 v3 v6) (v6 + (1 : Int32)) (xf_249 M v1 v3 v6) v6 v3 v1 v2)) ∧ (¬ (v4 < (0 : Int32)) → (((xf_249 M v1 v3 v6) < v5 → (xq_247_44 n (xm_249 M v1 v3 v6) (v6 + (1 : Int32)) (xf_249 M v1 v3 v6) v6 v3 v1 v2)) ∧ (¬ ((xf_249 M v1 v3 v6) < v5) → (xq_247_44 n (xm_249 M v1 v3 v6) (v6 + (1 : Int32)) v5 v4 v3 v1 v2))))))))))
theorem xt_247_44 {X : ro_Sx} {post : ro_Po} : ∀ (n : Nat) {M : ro_Mm} {v6 : Int32} {v5 : Int32} {v4 : Int32} {v3 : Int32} {v1 : Int32} {v2 : Int32} (hL : ro_lay M) (hp : xq_247_44 n M v6 v5 v4 v3 v1 v2) (hk : ro_w X 6 247 post 96 [(6, .int (xg_247_44 n M v6 v5 v4 v3 v1 v2).1), (5, .int (xg_247_44 n M v6 v5 v4 v3 v1 v2).2.1), (4, .int (xg_247_44 n M v6 v5 v4 v3 v1 v2).2.2.1), (3, .int v3), (0, .ref 163), (1, .int v1), (2, .int v2)] [] (xg_247_44 n M v6 v5 v4 v3 v1 v2).2.2.2 (0, 0)), ro_w X 6 247 post 44 [(6, .int v6), (5, .int v5), (4, .int v4), (3, .int v3), (0, .ref 163), (1, .int v1), (2, .int v2)] [] M (0, 0) := by
  intro n
  induction n with
  | zero => intro M v6 v5 v4 v3 v1 v2 hL hp hk; exact False.elim hp
  | succ n ih =>
    intro M v6 v5 v4 v3 v1 v2 hL hp hk
    rw [xq_247_44] at hp
    refine rs_iload ri_247_44 rfl rfl ?_
    refine rs_iconst (v := (1 : Int32)) ri_247_46 rfl (by decide) ?_
    refine rs_iload_n ri_247_47 rfl rfl ?_
    refine rs_ishl (r := ((1 : Int32) <<< (v3 &&& 31))) ri_247_48 rfl rfl ?_
    refine rs_icmp_ge (t := 96) ri_247_49 rfl rfl (fun h6 => ?_) (fun h6 => ?_)
    · skip
      have e : xg_247_44 (n + 1) M v6 v5 v4 v3 v1 v2 = (v6, v5, v4, M) := by rw [xg_247_44]; first | (simp only [if_pos h6]; done) | rfl
      rw [e] at hk
      exact ro_w_lv (ro_sub_c rfl (ro_sub_c rfl (ro_sub_c rfl (ro_sub_c rfl (ro_sub_c rfl (ro_sub_c rfl (ro_sub_c rfl (ro_sub_n rfl)))))))) hk
    · have hp := hp.2 h6
      refine rs_aload_n ri_247_52 rfl rfl ?_
      refine rs_iload_n ri_247_53 rfl rfl ?_
      refine rs_iload_n ri_247_54 rfl rfl ?_
      refine rs_iload ri_247_55 rfl rfl ?_
      obtain ⟨q6, hp⟩ := hp
      refine rs_virt (As := [.int v1, .int v3, .int v6]) (r := []) ri_247_57 rfl (by decide) rm_249.2.2.2 rm_249.2.2.1 rfl rfl rfl (by decide) (ro_kf (kd_163 hL)) (Nat.le_of_ble_eq_true rfl) (by decide) (by decide) (xs_249 (X := X) hL q6) ?_
      rintro _ _ ⟨e1, e2⟩
      rw [e1, e2]
      show ro_w X _ 247 _ 60 [(6, .int v6), (5, .int v5), (4, .int v4), (3, .int v3), (0, .ref 163), (1, .int v1), (2, .int v2)] [.int (xf_249 M v1 v3 v6)] (xm_249 M v1 v3 v6) (0, 0)
      refine rs_istore (lv2 := [(7, .int (xf_249 M v1 v3 v6)), (6, .int v6), (5, .int v5), (4, .int v4), (3, .int v3), (0, .ref 163), (1, .int v1), (2, .int v2)]) ri_247_60 rfl rm_247.1 (by decide) rfl ?_
      refine rs_iload ri_247_62 rfl rfl ?_
      refine rs_if_lt (t := 90) ri_247_64 rfl rfl (fun h8 => ?_) (fun h8 => ?_)
      · have hp := hp.1 h8
        refine rs_iinc (v := (v6 + (1 : Int32))) (lv2 := [(6, .int (v6 + (1 : Int32))), (7, .int (xf_249 M v1 v3 v6)), (5, .int v5), (4, .int v4), (3, .int v3), (0, .ref 163), (1, .int v1), (2, .int v2)]) ri_247_90 rfl rfl rfl rm_247.1 (by decide) rfl ?_
        refine rs_goto (t := 44) ri_247_93 rfl ?_
        have e : xg_247_44 (n + 1) M v6 v5 v4 v3 v1 v2 = xg_247_44 n (xm_249 M v1 v3 v6) (v6 + (1 : Int32)) v5 v4 v3 v1 v2 := by rw [xg_247_44]; first | (simp only [if_neg h6, if_pos h8]; done) | rfl
        rw [e] at hk
        exact ro_w_lv (ro_sub_c rfl (ro_sub_c rfl (ro_sub_c rfl (ro_sub_c rfl (ro_sub_c rfl (ro_sub_c rfl (ro_sub_c rfl (ro_sub_n rfl)))))))) (ih (xl_249 hL q6)  hp hk)
      · have hp := hp.2 h8
        refine rs_iload ri_247_67 rfl rfl ?_
        refine rs_if_lt (t := 82) ri_247_69 rfl rfl (fun h9 => ?_) (fun h9 => ?_)
        · have hp := hp.1 h9
          refine rs_iload ri_247_82 rfl rfl ?_
          refine rs_istore (lv2 := [(4, .int v6), (7, .int (xf_249 M v1 v3 v6)), (6, .int v6), (5, .int v5), (3, .int v3), (0, .ref 163), (1, .int v1), (2, .int v2)]) ri_247_84 rfl rm_247.1 (by decide) rfl ?_
          refine rs_iload ri_247_86 rfl rfl ?_
          refine rs_istore (lv2 := [(5, .int (xf_249 M v1 v3 v6)), (4, .int v6), (7, .int (xf_249 M v1 v3 v6)), (6, .int v6), (3, .int v3), (0, .ref 163), (1, .int v1), (2, .int v2)]) ri_247_88 rfl rm_247.1 (by decide) rfl ?_
          refine rs_iinc (v := (v6 + (1 : Int32))) (lv2 := [(6, .int (v6 + (1 : Int32))), (5, .int (xf_249 M v1 v3 v6)), (4, .int v6), (7, .int (xf_249 M v1 v3 v6)), (3, .int v3), (0, .ref 163), (1, .int v1), (2, .int v2)]) ri_247_90 rfl rfl rfl rm_247.1 (by decide) rfl ?_
          refine rs_goto (t := 44) ri_247_93 rfl ?_
          have e : xg_247_44 (n + 1) M v6 v5 v4 v3 v1 v2 = xg_247_44 n (xm_249 M v1 v3 v6) (v6 + (1 : Int32)) (xf_249 M v1 v3 v6) v6 v3 v1 v2 := by rw [xg_247_44]; first | (simp only [if_neg h6, if_neg h8, if_pos h9]; done) | rfl
          rw [e] at hk
          exact ro_w_lv (ro_sub_c rfl (ro_sub_c rfl (ro_sub_c rfl (ro_sub_c rfl (ro_sub_c rfl (ro_sub_c rfl (ro_sub_c rfl (ro_sub_n rfl)))))))) (ih (xl_249 hL q6)  hp hk)
        · have hp := hp.2 h9
          refine rs_iload ri_247_72 rfl rfl ?_
          refine rs_iload ri_247_74 rfl rfl ?_
          refine rs_icmp_lt (t := 82) ri_247_76 rfl rfl (fun h10 => ?_) (fun h10 => ?_)
          · have hp := hp.1 h10
            refine rs_iload ri_247_82 rfl rfl ?_
            refine rs_istore (lv2 := [(4, .int v6), (7, .int (xf_249 M v1 v3 v6)), (6, .int v6), (5, .int v5), (3, .int v3), (0, .ref 163), (1, .int v1), (2, .int v2)]) ri_247_84 rfl rm_247.1 (by decide) rfl ?_
            refine rs_iload ri_247_86 rfl rfl ?_
            refine rs_istore (lv2 := [(5, .int (xf_249 M v1 v3 v6)), (4, .int v6), (7, .int (xf_249 M v1 v3 v6)), (6, .int v6), (3, .int v3), (0, .ref 163), (1, .int v1), (2, .int v2)]) ri_247_88 rfl rm_247.1 (by decide) rfl ?_
            refine rs_iinc (v := (v6 + (1 : Int32))) (lv2 := [(6, .int (v6 + (1 : Int32))), (5, .int (xf_249 M v1 v3 v6)), (4, .int v6), (7, .int (xf_249 M v1 v3 v6)), (3, .int v3), (0, .ref 163), (1, .int v1), (2, .int v2)]) ri_247_90 rfl rfl rfl rm_247.1 (by decide) rfl ?_
            refine rs_goto (t := 44) ri_247_93 rfl ?_
            have e : xg_247_44 (n + 1) M v6 v5 v4 v3 v1 v2 = xg_247_44 n (xm_249 M v1 v3 v6) (v6 + (1 : Int32)) (xf_249 M v1 v3 v6) v6 v3 v1 v2 := by rw [xg_247_44]; first | (simp only [if_neg h6, if_neg h8, if_neg h9, if_pos h10]; done) | rfl
            rw [e] at hk
            exact ro_w_lv (ro_sub_c rfl (ro_sub_c rfl (ro_sub_c rfl (ro_sub_c rfl (ro_sub_c rfl (ro_sub_c rfl (ro_sub_c rfl (ro_sub_n rfl)))))))) (ih (xl_249 hL q6)  hp hk)
          · have hp := hp.2 h10
            refine rs_goto (t := 90) ri_247_79 rfl ?_
            refine rs_iinc (v := (v6 + (1 : Int32))) (lv2 := [(6, .int (v6 + (1 : Int32))), (7, .int (xf_249 M v1 v3 v6)), (5, .int v5), (4, .int v4), (3, .int v3), (0, .ref 163), (1, .int v1), (2, .int v2)]) ri_247_90 rfl rfl rfl rm_247.1 (by decide) rfl ?_
            refine rs_goto (t := 44) ri_247_93 rfl ?_
            have e : xg_247_44 (n + 1) M v6 v5 v4 v3 v1 v2 = xg_247_44 n (xm_249 M v1 v3 v6) (v6 + (1 : Int32)) v5 v4 v3 v1 v2 := by rw [xg_247_44]; first | (simp only [if_neg h6, if_neg h8, if_neg h9, if_neg h10]; done) | rfl
            rw [e] at hk
            exact ro_w_lv (ro_sub_c rfl (ro_sub_c rfl (ro_sub_c rfl (ro_sub_c rfl (ro_sub_c rfl (ro_sub_c rfl (ro_sub_c rfl (ro_sub_n rfl)))))))) (ih (xl_249 hL q6)  hp hk)
theorem xl_247_44 : ∀ (n : Nat) {M : ro_Mm} {v6 : Int32} {v5 : Int32} {v4 : Int32} {v3 : Int32} {v1 : Int32} {v2 : Int32} (hL : ro_lay M) (hp : xq_247_44 n M v6 v5 v4 v3 v1 v2), ro_lay (xg_247_44 n M v6 v5 v4 v3 v1 v2).2.2.2 := by
  intro n
  induction n with
  | zero => intro M v6 v5 v4 v3 v1 v2 hL hp; exact False.elim hp
  | succ n ih =>
    intro M v6 v5 v4 v3 v1 v2 hL hp
    rw [xq_247_44] at hp
    rw [xg_247_44]
    by_cases hz : ((1 : Int32) <<< (v3 &&& 31)) ≤ v6
    · have hp := hp.1 hz
      rw [if_pos hz]
      exact hL
    · have hp := hp.2 hz
      rw [if_neg hz]
      obtain ⟨q6, hp⟩ := hp
      by_cases hz : (xf_249 M v1 v3 v6) < (0 : Int32)
      · have hp := hp.1 hz
        rw [if_pos hz]
        exact ih (xl_249 hL q6)  hp
      · have hp := hp.2 hz
        rw [if_neg hz]
        by_cases hz : v4 < (0 : Int32)
        · have hp := hp.1 hz
          rw [if_pos hz]
          exact ih (xl_249 hL q6)  hp
        · have hp := hp.2 hz
          rw [if_neg hz]
          by_cases hz : (xf_249 M v1 v3 v6) < v5
          · have hp := hp.1 hz
            rw [if_pos hz]
            exact ih (xl_249 hL q6)  hp
          · have hp := hp.2 hz
            rw [if_neg hz]
            exact ih (xl_249 hL q6)  hp
theorem xwI_247_44 : ∀ {n : Nat} {M : ro_Mm} {v6 : Int32} {v5 : Int32} {v4 : Int32} {v3 : Int32} {v1 : Int32} {v2 : Int32} {c j : Nat} (n0 : c ≠ 181) (n1 : c ≠ 182) (n2 : c ≠ 179) (n3 : c ≠ 180), (xg_247_44 n M v6 v5 v4 v3 v1 v2).2.2.2.2.1 c j = M.2.1 c j := by
  intro n
  induction n with
  | zero => intro M v6 v5 v4 v3 v1 v2 c j n0 n1 n2 n3; rfl
  | succ n ih =>
    intro M v6 v5 v4 v3 v1 v2 c j n0 n1 n2 n3
    rw [xg_247_44]
    by_cases hz : ((1 : Int32) <<< (v3 &&& 31)) ≤ v6
    · rw [if_pos hz]
      first | done | exact rfl
    · rw [if_neg hz]
      by_cases hz : (xf_249 M v1 v3 v6) < (0 : Int32)
      · rw [if_pos hz]
        first | done | exact (((ih n0 n1 n2 n3)).trans (xwI_249 n0 n1 n2 n3))
      · rw [if_neg hz]
        by_cases hz : v4 < (0 : Int32)
        · rw [if_pos hz]
          first | done | exact (((ih n0 n1 n2 n3)).trans (xwI_249 n0 n1 n2 n3))
        · rw [if_neg hz]
          by_cases hz : (xf_249 M v1 v3 v6) < v5
          · rw [if_pos hz]
            first | done | exact (((ih n0 n1 n2 n3)).trans (xwI_249 n0 n1 n2 n3))
          · rw [if_neg hz]
            first | done | exact (((ih n0 n1 n2 n3)).trans (xwI_249 n0 n1 n2 n3))
theorem xwJ_247_44 : ∀ {n : Nat} {M : ro_Mm} {v6 : Int32} {v5 : Int32} {v4 : Int32} {v3 : Int32} {v1 : Int32} {v2 : Int32} {c j : Nat}, (xg_247_44 n M v6 v5 v4 v3 v1 v2).2.2.2.2.2.1 c j = M.2.2.1 c j := by
  intro n
  induction n with
  | zero => intro M v6 v5 v4 v3 v1 v2 c j; rfl
  | succ n ih =>
    intro M v6 v5 v4 v3 v1 v2 c j
    rw [xg_247_44]
    by_cases hz : ((1 : Int32) <<< (v3 &&& 31)) ≤ v6
    · rw [if_pos hz]
      first | done | exact rfl
    · rw [if_neg hz]
      by_cases hz : (xf_249 M v1 v3 v6) < (0 : Int32)
      · rw [if_pos hz]
        first | done | exact (((ih)).trans (xwJ_249))
      · rw [if_neg hz]
        by_cases hz : v4 < (0 : Int32)
        · rw [if_pos hz]
          first | done | exact (((ih)).trans (xwJ_249))
        · rw [if_neg hz]
          by_cases hz : (xf_249 M v1 v3 v6) < v5
          · rw [if_pos hz]
            first | done | exact (((ih)).trans (xwJ_249))
          · rw [if_neg hz]
            first | done | exact (((ih)).trans (xwJ_249))
/-- RefusedOnceModel.round(II)I -/
noncomputable def xf_247 (M : ro_Mm) (v1 : Int32) (v2 : Int32) : Int32 := (if (xf_198 M v1) then (if (-1 : Int32) ≤ v2 then (if (0 : Int32) ≤ (xf_235 M v1) then (if (xg_247_44 lp_N M (0 : Int32) (0 : Int32) (-2 : Int32) (xf_248 M v1) v1 v2).2.2.1 < (0 : Int32) then (-2 : Int32) else (if v2 < (xf_248 M v1) then (if (0 : Int32) ≤ v2 then (((xg_247_44 lp_N M (0 : Int32) (0 : Int32) (-2 : Int32) (xf_248 M v1) v1 v2).2.2.1 >>> ((((xf_248 M v1) - (1 : Int32)) - v2) &&& 31)) &&& (1 : Int32)) else (xg_247_44 lp_N M (0 : Int32) (0 : Int32) (-2 : Int32) (xf_248 M v1) v1 v2).2.1) else (-2 : Int32))) else (xf_235 M v1)) else (-1 : Int32)) else (-1 : Int32))
noncomputable def xm_247 (M : ro_Mm) (v1 : Int32) (v2 : Int32) : ro_Mm := (if (xf_198 M v1) then (if (-1 : Int32) ≤ v2 then (if (0 : Int32) ≤ (xf_235 M v1) then (xg_247_44 lp_N M (0 : Int32) (0 : Int32) (-2 : Int32) (xf_248 M v1) v1 v2).2.2.2 else M) else M) else M)
def xp_247 (M : ro_Mm) (v1 : Int32) (v2 : Int32) : Prop := (((xf_198 M v1) → (((-1 : Int32) ≤ v2 → (xp_235 M v1 ∧ (((0 : Int32) ≤ (xf_235 M v1) → (xp_248 M v1 ∧ (xq_247_44 lp_N M (0 : Int32) (0 : Int32) (-2 : Int32) (xf_248 M v1) v1 v2 ∧ True))) ∧ (¬ ((0 : Int32) ≤ (xf_235 M v1)) → (xp_235 M v1 ∧ True))))) ∧ (¬ ((-1 : Int32) ≤ v2) → True))) ∧ (¬ ((xf_198 M v1)) → True))
theorem xs_247 {X : ro_Sx} {M : ro_Mm} {v1 : Int32} {v2 : Int32} (hL : ro_lay M) (hp : xp_247 M v1 v2) : ro_cwp X 7 247 [.ref 163, .int v1, .int v2] M (fun v M2 => v = some (.int (xf_247 M v1 v2)) ∧ M2 = xm_247 M v1 v2) := by
  refine rs_begin (lv0 := [(0, .ref 163), (1, .int v1), (2, .int v2)]) (by decide) rfl (by rw [rm_247.1]; exact Nat.le_of_ble_eq_true rfl) rfl ?_
  unfold xp_247 at hp
  refine rs_iload_n ri_247_0 rfl rfl ?_
  refine rs_stat (As := [.int v1]) (r := []) ri_247_1 rfl rm_198.2.2.2 rfl rfl rfl (Nat.le_of_ble_eq_true rfl) (by decide) (by decide) (xs_198 (X := X) hL) ?_
  rintro _ _ ⟨e1, e2⟩
  rw [e1, e2]
  show ro_w X _ 247 _ 4 [(0, .ref 163), (1, .int v1), (2, .int v2)] [.int (ro_b (xf_198 M v1))] M (0, 0)
  refine rs_ifeq_c (t := 12) ri_247_4 rfl rfl (fun h1 => ?_) (fun h1 => ?_)
  · have hp := hp.2 h1
    refine rs_iconst (v := (-1 : Int32)) ri_247_12 rfl (by decide) ?_
    refine rs_iret ri_247_13 rm_247.2.1 (by decide) ?_
    exact ⟨by unfold xf_247; first | (simp only [if_neg h1]; done) | rfl, by unfold xm_247; first | (simp only [if_neg h1]; done) | rfl⟩
  · have hp := hp.1 h1
    refine rs_iload_n ri_247_7 rfl rfl ?_
    refine rs_iconst (v := (-1 : Int32)) ri_247_8 rfl (by decide) ?_
    refine rs_icmp_ge (t := 14) ri_247_9 rfl rfl (fun h2 => ?_) (fun h2 => ?_)
    · have hp := hp.1 h2
      refine rs_aload_n ri_247_14 rfl rfl ?_
      refine rs_iload_n ri_247_15 rfl rfl ?_
      obtain ⟨q2, hp⟩ := hp
      refine rs_virt (As := [.int v1]) (r := []) ri_247_16 rfl (by decide) rm_235.2.2.2 rm_235.2.2.1 rfl rfl rfl (by decide) (ro_kf (kd_163 hL)) (Nat.le_of_ble_eq_true rfl) (by decide) (by decide) (xs_235 (X := X) hL q2) ?_
      rintro _ _ ⟨e1, e2⟩
      rw [e1, e2]
      show ro_w X _ 247 _ 19 [(0, .ref 163), (1, .int v1), (2, .int v2)] [.int (xf_235 M v1)] M (0, 0)
      refine rs_if_ge (t := 28) ri_247_19 rfl rfl (fun h4 => ?_) (fun h4 => ?_)
      · have hp := hp.1 h4
        refine rs_aload_n ri_247_28 rfl rfl ?_
        refine rs_iload_n ri_247_29 rfl rfl ?_
        obtain ⟨q4, hp⟩ := hp
        refine rs_virt (As := [.int v1]) (r := []) ri_247_30 rfl (by decide) rm_248.2.2.2 rm_248.2.2.1 rfl rfl rfl (by decide) (ro_kf (kd_163 hL)) (Nat.le_of_ble_eq_true rfl) (by decide) (by decide) (xs_248 (X := X) hL q4) ?_
        rintro _ _ ⟨e1, e2⟩
        rw [e1, e2]
        show ro_w X _ 247 _ 33 [(0, .ref 163), (1, .int v1), (2, .int v2)] [.int (xf_248 M v1)] M (0, 0)
        refine rs_istore_n (lv2 := [(3, .int (xf_248 M v1)), (0, .ref 163), (1, .int v1), (2, .int v2)]) ri_247_33 rfl rm_247.1 (by decide) rfl ?_
        refine rs_bipush (v := (-2 : Int32)) ri_247_34 rfl (by decide) ?_
        refine rs_istore (lv2 := [(4, .int (-2 : Int32)), (3, .int (xf_248 M v1)), (0, .ref 163), (1, .int v1), (2, .int v2)]) ri_247_36 rfl rm_247.1 (by decide) rfl ?_
        refine rs_iconst (v := (0 : Int32)) ri_247_38 rfl (by decide) ?_
        refine rs_istore (lv2 := [(5, .int (0 : Int32)), (4, .int (-2 : Int32)), (3, .int (xf_248 M v1)), (0, .ref 163), (1, .int v1), (2, .int v2)]) ri_247_39 rfl rm_247.1 (by decide) rfl ?_
        refine rs_iconst (v := (0 : Int32)) ri_247_41 rfl (by decide) ?_
        refine rs_istore (lv2 := [(6, .int (0 : Int32)), (5, .int (0 : Int32)), (4, .int (-2 : Int32)), (3, .int (xf_248 M v1)), (0, .ref 163), (1, .int v1), (2, .int v2)]) ri_247_42 rfl rm_247.1 (by decide) rfl ?_
        obtain ⟨q10, hp⟩ := hp
        refine xt_247_44 lp_N hL q10 ?_
        refine rs_iload ri_247_96 rfl rfl ?_
        refine rs_if_lt (t := 106) ri_247_98 rfl rfl (fun h12 => ?_) (fun h12 => ?_)
        · skip
          refine rs_bipush (v := (-2 : Int32)) ri_247_106 rfl (by decide) ?_
          refine rs_iret ri_247_108 rm_247.2.1 (by decide) ?_
          exact ⟨by unfold xf_247; first | (simp only [if_pos h1, if_pos h2, if_pos h4, if_pos h12]; done) | rfl, by unfold xm_247; first | (simp only [if_pos h1, if_pos h2, if_pos h4, if_pos h12]; done) | rfl⟩
        · skip
          refine rs_iload_n ri_247_101 rfl rfl ?_
          refine rs_iload_n ri_247_102 rfl rfl ?_
          refine rs_icmp_lt (t := 109) ri_247_103 rfl rfl (fun h13 => ?_) (fun h13 => ?_)
          · skip
            refine rs_iload_n ri_247_109 rfl rfl ?_
            refine rs_if_ge (t := 118) ri_247_110 rfl rfl (fun h14 => ?_) (fun h14 => ?_)
            · skip
              refine rs_iload ri_247_118 rfl rfl ?_
              refine rs_iload_n ri_247_120 rfl rfl ?_
              refine rs_iconst (v := (1 : Int32)) ri_247_121 rfl (by decide) ?_
              refine rs_isub (r := ((xf_248 M v1) - (1 : Int32))) ri_247_122 rfl rfl ?_
              refine rs_iload_n ri_247_123 rfl rfl ?_
              refine rs_isub (r := (((xf_248 M v1) - (1 : Int32)) - v2)) ri_247_124 rfl rfl ?_
              refine rs_ishr (r := ((xg_247_44 lp_N M (0 : Int32) (0 : Int32) (-2 : Int32) (xf_248 M v1) v1 v2).2.2.1 >>> ((((xf_248 M v1) - (1 : Int32)) - v2) &&& 31))) ri_247_125 rfl rfl ?_
              refine rs_iconst (v := (1 : Int32)) ri_247_126 rfl (by decide) ?_
              refine rs_iand (r := (((xg_247_44 lp_N M (0 : Int32) (0 : Int32) (-2 : Int32) (xf_248 M v1) v1 v2).2.2.1 >>> ((((xf_248 M v1) - (1 : Int32)) - v2) &&& 31)) &&& (1 : Int32))) ri_247_127 rfl rfl ?_
              refine rs_iret ri_247_128 rm_247.2.1 (by decide) ?_
              exact ⟨by unfold xf_247; first | (simp only [if_pos h1, if_pos h2, if_pos h4, if_neg h12, if_pos h13, if_pos h14]; done) | rfl, by unfold xm_247; first | (simp only [if_pos h1, if_pos h2, if_pos h4, if_neg h12, if_pos h13, if_pos h14]; done) | rfl⟩
            · skip
              refine rs_iload ri_247_113 rfl rfl ?_
              refine rs_goto (t := 128) ri_247_115 rfl ?_
              refine rs_iret ri_247_128 rm_247.2.1 (by decide) ?_
              exact ⟨by unfold xf_247; first | (simp only [if_pos h1, if_pos h2, if_pos h4, if_neg h12, if_pos h13, if_neg h14]; done) | rfl, by unfold xm_247; first | (simp only [if_pos h1, if_pos h2, if_pos h4, if_neg h12, if_pos h13, if_neg h14]; done) | rfl⟩
          · skip
            refine rs_bipush (v := (-2 : Int32)) ri_247_106 rfl (by decide) ?_
            refine rs_iret ri_247_108 rm_247.2.1 (by decide) ?_
            exact ⟨by unfold xf_247; first | (simp only [if_pos h1, if_pos h2, if_pos h4, if_neg h12, if_neg h13]; done) | rfl, by unfold xm_247; first | (simp only [if_pos h1, if_pos h2, if_pos h4, if_neg h12, if_neg h13]; done) | rfl⟩
      · have hp := hp.2 h4
        refine rs_aload_n ri_247_22 rfl rfl ?_
        refine rs_iload_n ri_247_23 rfl rfl ?_
        obtain ⟨q14, hp⟩ := hp
        refine rs_virt (As := [.int v1]) (r := []) ri_247_24 rfl (by decide) rm_235.2.2.2 rm_235.2.2.1 rfl rfl rfl (by decide) (ro_kf (kd_163 hL)) (Nat.le_of_ble_eq_true rfl) (by decide) (by decide) (xs_235 (X := X) hL q14) ?_
        rintro _ _ ⟨e1, e2⟩
        rw [e1, e2]
        show ro_w X _ 247 _ 27 [(0, .ref 163), (1, .int v1), (2, .int v2)] [.int (xf_235 M v1)] M (0, 0)
        refine rs_iret ri_247_27 rm_247.2.1 (by decide) ?_
        exact ⟨by unfold xf_247; first | (simp only [if_pos h1, if_pos h2, if_neg h4]; done) | rfl, by unfold xm_247; first | (simp only [if_pos h1, if_pos h2, if_neg h4]; done) | rfl⟩
    · have hp := hp.2 h2
      refine rs_iconst (v := (-1 : Int32)) ri_247_12 rfl (by decide) ?_
      refine rs_iret ri_247_13 rm_247.2.1 (by decide) ?_
      exact ⟨by unfold xf_247; first | (simp only [if_pos h1, if_neg h2]; done) | rfl, by unfold xm_247; first | (simp only [if_pos h1, if_neg h2]; done) | rfl⟩
theorem xl_247 {M : ro_Mm} {v1 : Int32} {v2 : Int32} (hL : ro_lay M) (hp : xp_247 M v1 v2) : ro_lay (xm_247 M v1 v2) := by
  unfold xp_247 at hp
  unfold xm_247
  by_cases hz : (xf_198 M v1)
  · have hp := hp.1 hz
    rw [if_pos hz]
    by_cases hz : (-1 : Int32) ≤ v2
    · have hp := hp.1 hz
      rw [if_pos hz]
      obtain ⟨q2, hp⟩ := hp
      by_cases hz : (0 : Int32) ≤ (xf_235 M v1)
      · have hp := hp.1 hz
        rw [if_pos hz]
        obtain ⟨q4, hp⟩ := hp
        obtain ⟨q10, hp⟩ := hp
        by_cases hz : (xg_247_44 lp_N M (0 : Int32) (0 : Int32) (-2 : Int32) (xf_248 M v1) v1 v2).2.2.1 < (0 : Int32)
        · skip
          exact (xl_247_44 lp_N hL q10)
        · skip
          by_cases hz : v2 < (xf_248 M v1)
          · skip
            by_cases hz : (0 : Int32) ≤ v2
            · skip
              exact (xl_247_44 lp_N hL q10)
            · skip
              exact (xl_247_44 lp_N hL q10)
          · skip
            exact (xl_247_44 lp_N hL q10)
      · have hp := hp.2 hz
        rw [if_neg hz]
        obtain ⟨q14, hp⟩ := hp
        exact hL
    · have hp := hp.2 hz
      rw [if_neg hz]
      exact hL
  · have hp := hp.2 hz
    rw [if_neg hz]
    exact hL
theorem xwI_247 {M : ro_Mm} {v1 : Int32} {v2 : Int32} {c j : Nat} (n0 : c ≠ 181) (n1 : c ≠ 182) (n2 : c ≠ 179) (n3 : c ≠ 180) : (xm_247 M v1 v2).2.1 c j = M.2.1 c j := by
  unfold xm_247
  by_cases hz : (xf_198 M v1)
  · rw [if_pos hz]
    by_cases hz : (-1 : Int32) ≤ v2
    · rw [if_pos hz]
      by_cases hz : (0 : Int32) ≤ (xf_235 M v1)
      · rw [if_pos hz]
        first | done | exact (xwI_247_44 n0 n1 n2 n3)
      · rw [if_neg hz]
        first | done | exact rfl
    · rw [if_neg hz]
      first | done | exact rfl
  · rw [if_neg hz]
    first | done | exact rfl
theorem xwJ_247 {M : ro_Mm} {v1 : Int32} {v2 : Int32} {c j : Nat} : (xm_247 M v1 v2).2.2.1 c j = M.2.2.1 c j := by
  unfold xm_247
  by_cases hz : (xf_198 M v1)
  · rw [if_pos hz]
    by_cases hz : (-1 : Int32) ≤ v2
    · rw [if_pos hz]
      by_cases hz : (0 : Int32) ≤ (xf_235 M v1)
      · rw [if_pos hz]
        first | done | exact (xwJ_247_44)
      · rw [if_neg hz]
        first | done | exact rfl
    · rw [if_neg hz]
      first | done | exact rfl
  · rw [if_neg hz]
    first | done | exact rfl
/-- RefusedOnce.pay(IIII)J -/
noncomputable def xf_94 (M : ro_Mm) (v1 : Int32) (v2 : Int32) (v3 : Int32) (v4 : Int32) : Int64 := (if (xf_56 M v1) then (if (xf_13 M v2 (0 : Int32) (8 : Int32)) then (if (xf_13 M v3 (0 : Int32) (8 : Int32)) then (if (xf_95 M v4) then (xf_102 (xm_96 M (v1 / (10 : Int32)) (ro_irem v1 (10 : Int32)) v2 v3) v4) else (-9223372036854775808 : Int64)) else (-9223372036854775808 : Int64)) else (-9223372036854775808 : Int64)) else (-9223372036854775808 : Int64))
noncomputable def xm_94 (M : ro_Mm) (v1 : Int32) (v2 : Int32) (v3 : Int32) (v4 : Int32) : ro_Mm := (if (xf_56 M v1) then (if (xf_13 M v2 (0 : Int32) (8 : Int32)) then (if (xf_13 M v3 (0 : Int32) (8 : Int32)) then (if (xf_95 M v4) then (xm_96 M (v1 / (10 : Int32)) (ro_irem v1 (10 : Int32)) v2 v3) else M) else M) else M) else M)
def xp_94 (M : ro_Mm) (v1 : Int32) (v2 : Int32) (v3 : Int32) (v4 : Int32) : Prop := (((xf_56 M v1) → (((xf_13 M v2 (0 : Int32) (8 : Int32)) → (((xf_13 M v3 (0 : Int32) (8 : Int32)) → (((xf_95 M v4) → (xp_96 M (v1 / (10 : Int32)) (ro_irem v1 (10 : Int32)) v2 v3 ∧ True)) ∧ (¬ ((xf_95 M v4)) → True))) ∧ (¬ ((xf_13 M v3 (0 : Int32) (8 : Int32))) → True))) ∧ (¬ ((xf_13 M v2 (0 : Int32) (8 : Int32))) → True))) ∧ (¬ ((xf_56 M v1)) → True))
theorem xs_94 {X : ro_Sx} {M : ro_Mm} {v1 : Int32} {v2 : Int32} {v3 : Int32} {v4 : Int32} (hL : ro_lay M) (hp : xp_94 M v1 v2 v3 v4) : ro_cwp X 7 94 [.ref 4, .int v1, .int v2, .int v3, .int v4] M (fun v M2 => v = some (.long (xf_94 M v1 v2 v3 v4)) ∧ M2 = xm_94 M v1 v2 v3 v4) := by
  refine rs_begin (lv0 := [(0, .ref 4), (1, .int v1), (2, .int v2), (3, .int v3), (4, .int v4)]) (by decide) rfl (by rw [rm_94.1]; exact Nat.le_of_ble_eq_true rfl) rfl ?_
  unfold xp_94 at hp
  refine rs_aload_n ri_94_0 rfl rfl ?_
  refine rs_iload_n ri_94_1 rfl rfl ?_
  refine rs_virt (As := [.int v1]) (r := []) ri_94_2 rfl (by decide) rm_56.2.2.2 rm_56.2.2.1 rfl rfl rfl (by decide) (ro_kf (kd_4 hL)) (Nat.le_of_ble_eq_true rfl) (by decide) (by decide) (xs_56 (X := X) hL) ?_
  rintro _ _ ⟨e1, e2⟩
  rw [e1, e2]
  show ro_w X _ 94 _ 5 [(0, .ref 4), (1, .int v1), (2, .int v2), (3, .int v3), (4, .int v4)] [.int (ro_b (xf_56 M v1))] M (0, 0)
  refine rs_ifeq_c (t := 36) ri_94_5 rfl rfl (fun h1 => ?_) (fun h1 => ?_)
  · have hp := hp.2 h1
    refine rs_ldc2 (v := (-9223372036854775808 : Int64)) ri_94_36 rfl rfl rfl ?_
    refine rs_lret ri_94_39 rm_94.2.1 (by decide) ?_
    exact ⟨by unfold xf_94; first | (simp only [if_neg h1]; done) | rfl, by unfold xm_94; first | (simp only [if_neg h1]; done) | rfl⟩
  · have hp := hp.1 h1
    refine rs_iload_n ri_94_8 rfl rfl ?_
    refine rs_iconst (v := (0 : Int32)) ri_94_9 rfl (by decide) ?_
    refine rs_bipush (v := (8 : Int32)) ri_94_10 rfl (by decide) ?_
    refine rs_stat (As := [.int v2, .int (0 : Int32), .int (8 : Int32)]) (r := []) ri_94_12 rfl rm_13.2.2.2 rfl rfl rfl (Nat.le_of_ble_eq_true rfl) (by decide) (by decide) (xs_13 (X := X) hL) ?_
    rintro _ _ ⟨e1, e2⟩
    rw [e1, e2]
    show ro_w X _ 94 _ 15 [(0, .ref 4), (1, .int v1), (2, .int v2), (3, .int v3), (4, .int v4)] [.int (ro_b (xf_13 M v2 (0 : Int32) (8 : Int32)))] M (0, 0)
    refine rs_ifeq_c (t := 36) ri_94_15 rfl rfl (fun h2 => ?_) (fun h2 => ?_)
    · have hp := hp.2 h2
      refine rs_ldc2 (v := (-9223372036854775808 : Int64)) ri_94_36 rfl rfl rfl ?_
      refine rs_lret ri_94_39 rm_94.2.1 (by decide) ?_
      exact ⟨by unfold xf_94; first | (simp only [if_pos h1, if_neg h2]; done) | rfl, by unfold xm_94; first | (simp only [if_pos h1, if_neg h2]; done) | rfl⟩
    · have hp := hp.1 h2
      refine rs_iload_n ri_94_18 rfl rfl ?_
      refine rs_iconst (v := (0 : Int32)) ri_94_19 rfl (by decide) ?_
      refine rs_bipush (v := (8 : Int32)) ri_94_20 rfl (by decide) ?_
      refine rs_stat (As := [.int v3, .int (0 : Int32), .int (8 : Int32)]) (r := []) ri_94_22 rfl rm_13.2.2.2 rfl rfl rfl (Nat.le_of_ble_eq_true rfl) (by decide) (by decide) (xs_13 (X := X) hL) ?_
      rintro _ _ ⟨e1, e2⟩
      rw [e1, e2]
      show ro_w X _ 94 _ 25 [(0, .ref 4), (1, .int v1), (2, .int v2), (3, .int v3), (4, .int v4)] [.int (ro_b (xf_13 M v3 (0 : Int32) (8 : Int32)))] M (0, 0)
      refine rs_ifeq_c (t := 36) ri_94_25 rfl rfl (fun h3 => ?_) (fun h3 => ?_)
      · have hp := hp.2 h3
        refine rs_ldc2 (v := (-9223372036854775808 : Int64)) ri_94_36 rfl rfl rfl ?_
        refine rs_lret ri_94_39 rm_94.2.1 (by decide) ?_
        exact ⟨by unfold xf_94; first | (simp only [if_pos h1, if_pos h2, if_neg h3]; done) | rfl, by unfold xm_94; first | (simp only [if_pos h1, if_pos h2, if_neg h3]; done) | rfl⟩
      · have hp := hp.1 h3
        refine rs_iload ri_94_28 rfl rfl ?_
        refine rs_stat (As := [.int v4]) (r := []) ri_94_30 rfl rm_95.2.2.2 rfl rfl rfl (Nat.le_of_ble_eq_true rfl) (by decide) (by decide) (xs_95 (X := X) hL) ?_
        rintro _ _ ⟨e1, e2⟩
        rw [e1, e2]
        show ro_w X _ 94 _ 33 [(0, .ref 4), (1, .int v1), (2, .int v2), (3, .int v3), (4, .int v4)] [.int (ro_b (xf_95 M v4))] M (0, 0)
        refine rs_ifne_c (t := 40) ri_94_33 rfl rfl (fun h4 => ?_) (fun h4 => ?_)
        · have hp := hp.1 h4
          refine rs_aload_n ri_94_40 rfl rfl ?_
          refine rs_gf (v := .ref 48) ri_94_41 rfl (by decide) (ro_kf (kd_4 hL)) rfl (rf_4_5 hL) ?_
          refine rs_iload_n ri_94_44 rfl rfl ?_
          refine rs_bipush (v := (10 : Int32)) ri_94_45 rfl (by decide) ?_
          refine rs_idiv (r := (v1 / (10 : Int32))) ri_94_47 rfl (by decide) rfl ?_
          refine rs_iload_n ri_94_48 rfl rfl ?_
          refine rs_bipush (v := (10 : Int32)) ri_94_49 rfl (by decide) ?_
          refine rs_irem (r := (ro_irem v1 (10 : Int32))) ri_94_51 rfl (by decide) rfl ?_
          refine rs_iload_n ri_94_52 rfl rfl ?_
          refine rs_iload_n ri_94_53 rfl rfl ?_
          obtain ⟨q4, hp⟩ := hp
          refine rs_virt (As := [.int (v1 / (10 : Int32)), .int (ro_irem v1 (10 : Int32)), .int v2, .int v3]) (r := []) ri_94_54 rfl (by decide) rm_96.2.2.2 rm_96.2.2.1 rfl rfl rfl (by decide) (ro_kf (kd_48 hL)) (Nat.le_of_ble_eq_true rfl) (by decide) (by decide) (xs_96 (X := X) hL q4) ?_
          rintro _ _ ⟨e1, e2⟩
          rw [e1, e2]
          show ro_w X _ 94 _ 57 [(0, .ref 4), (1, .int v1), (2, .int v2), (3, .int v3), (4, .int v4)] [] (xm_96 M (v1 / (10 : Int32)) (ro_irem v1 (10 : Int32)) v2 v3) (0, 0)
          refine rs_aload_n ri_94_57 rfl rfl ?_
          refine rs_gf (v := .ref 48) ri_94_58 rfl (by decide) (ro_kf (kd_4 (xl_96 hL q4))) rfl (rf_4_5 (xl_96 hL q4)) ?_
          refine rs_iload ri_94_61 rfl rfl ?_
          refine rs_virt (As := [.int v4]) (r := []) ri_94_63 rfl (by decide) rm_102.2.2.2 rm_102.2.2.1 rfl rfl rfl (by decide) (ro_kf (kd_48 (xl_96 hL q4))) (Nat.le_of_ble_eq_true rfl) (by decide) (by decide) (xs_102 (X := X) (xl_96 hL q4)) ?_
          rintro _ _ ⟨e1, e2⟩
          rw [e1, e2]
          show ro_w X _ 94 _ 66 [(0, .ref 4), (1, .int v1), (2, .int v2), (3, .int v3), (4, .int v4)] [.long (xf_102 (xm_96 M (v1 / (10 : Int32)) (ro_irem v1 (10 : Int32)) v2 v3) v4)] (xm_96 M (v1 / (10 : Int32)) (ro_irem v1 (10 : Int32)) v2 v3) (0, 0)
          refine rs_lret ri_94_66 rm_94.2.1 (by decide) ?_
          exact ⟨by unfold xf_94; first | (simp only [if_pos h1, if_pos h2, if_pos h3, if_pos h4]; done) | rfl, by unfold xm_94; first | (simp only [if_pos h1, if_pos h2, if_pos h3, if_pos h4]; done) | rfl⟩
        · have hp := hp.2 h4
          refine rs_ldc2 (v := (-9223372036854775808 : Int64)) ri_94_36 rfl rfl rfl ?_
          refine rs_lret ri_94_39 rm_94.2.1 (by decide) ?_
          exact ⟨by unfold xf_94; first | (simp only [if_pos h1, if_pos h2, if_pos h3, if_neg h4]; done) | rfl, by unfold xm_94; first | (simp only [if_pos h1, if_pos h2, if_pos h3, if_neg h4]; done) | rfl⟩
theorem xl_94 {M : ro_Mm} {v1 : Int32} {v2 : Int32} {v3 : Int32} {v4 : Int32} (hL : ro_lay M) (hp : xp_94 M v1 v2 v3 v4) : ro_lay (xm_94 M v1 v2 v3 v4) := by
  unfold xp_94 at hp
  unfold xm_94
  by_cases hz : (xf_56 M v1)
  · have hp := hp.1 hz
    rw [if_pos hz]
    by_cases hz : (xf_13 M v2 (0 : Int32) (8 : Int32))
    · have hp := hp.1 hz
      rw [if_pos hz]
      by_cases hz : (xf_13 M v3 (0 : Int32) (8 : Int32))
      · have hp := hp.1 hz
        rw [if_pos hz]
        by_cases hz : (xf_95 M v4)
        · have hp := hp.1 hz
          rw [if_pos hz]
          obtain ⟨q4, hp⟩ := hp
          exact (xl_96 hL q4)
        · have hp := hp.2 hz
          rw [if_neg hz]
          exact hL
      · have hp := hp.2 hz
        rw [if_neg hz]
        exact hL
    · have hp := hp.2 hz
      rw [if_neg hz]
      exact hL
  · have hp := hp.2 hz
    rw [if_neg hz]
    exact hL
theorem xwI_94 {M : ro_Mm} {v1 : Int32} {v2 : Int32} {v3 : Int32} {v4 : Int32} {c j : Nat} (n0 : c ≠ 50) (n1 : c ≠ 51) (n2 : c ≠ 21) (n3 : c ≠ 16) (n4 : c ≠ 20) : (xm_94 M v1 v2 v3 v4).2.1 c j = M.2.1 c j := by
  unfold xm_94
  by_cases hz : (xf_56 M v1)
  · rw [if_pos hz]
    by_cases hz : (xf_13 M v2 (0 : Int32) (8 : Int32))
    · rw [if_pos hz]
      by_cases hz : (xf_13 M v3 (0 : Int32) (8 : Int32))
      · rw [if_pos hz]
        by_cases hz : (xf_95 M v4)
        · rw [if_pos hz]
          first | done | exact (xwI_96 n0 n1 n2 n3 n4)
        · rw [if_neg hz]
          first | done | exact rfl
      · rw [if_neg hz]
        first | done | exact rfl
    · rw [if_neg hz]
      first | done | exact rfl
  · rw [if_neg hz]
    first | done | exact rfl
theorem xwJ_94 {M : ro_Mm} {v1 : Int32} {v2 : Int32} {v3 : Int32} {v4 : Int32} {c j : Nat} (n0 : c ≠ 52) (n1 : c ≠ 53) (n2 : c ≠ 48) : (xm_94 M v1 v2 v3 v4).2.2.1 c j = M.2.2.1 c j := by
  unfold xm_94
  by_cases hz : (xf_56 M v1)
  · rw [if_pos hz]
    by_cases hz : (xf_13 M v2 (0 : Int32) (8 : Int32))
    · rw [if_pos hz]
      by_cases hz : (xf_13 M v3 (0 : Int32) (8 : Int32))
      · rw [if_pos hz]
        by_cases hz : (xf_95 M v4)
        · rw [if_pos hz]
          first | done | exact (xwJ_96 n0 n1 n2)
        · rw [if_neg hz]
          first | done | exact rfl
      · rw [if_neg hz]
        first | done | exact rfl
    · rw [if_neg hz]
      first | done | exact rfl
  · rw [if_neg hz]
    first | done | exact rfl
/-- RefusedOnceModel.later(IIII)I -/
noncomputable def xf_233 (M : ro_Mm) (v1 : Int32) (v2 : Int32) (v3 : Int32) (v4 : Int32) : Int32 := (if (xf_198 M v1) then (if (xf_234 M v2) then (if (xf_204 M v3) then (if (xf_195 M v4 (0 : Int32) (2 : Int32)) then (if (0 : Int32) ≤ (xf_235 M v1) then (if v4 = (0 : Int32) then ((xm_236 M v1 v2).2.1 181 (v3.toNatClampNeg)) else (if v4 = (1 : Int32) then ((xm_236 M v1 v2).2.1 182 (v3.toNatClampNeg)) else (((4 : Int32) * ((xm_236 M v1 v2).2.1 181 (v3.toNatClampNeg))) + ((M.2.1 168 0) * ((xm_236 M v1 v2).2.1 182 (v3.toNatClampNeg)))))) else (xf_235 M v1)) else (-1 : Int32)) else (-1 : Int32)) else (-1 : Int32)) else (-1 : Int32))
noncomputable def xm_233 (M : ro_Mm) (v1 : Int32) (v2 : Int32) (v3 : Int32) (v4 : Int32) : ro_Mm := (if (xf_198 M v1) then (if (xf_234 M v2) then (if (xf_204 M v3) then (if (xf_195 M v4 (0 : Int32) (2 : Int32)) then (if (0 : Int32) ≤ (xf_235 M v1) then (xm_236 M v1 v2) else M) else M) else M) else M) else M)
def xp_233 (M : ro_Mm) (v1 : Int32) (v2 : Int32) (v3 : Int32) (v4 : Int32) : Prop := (((xf_198 M v1) → (((xf_234 M v2) → (((xf_204 M v3) → (((xf_195 M v4 (0 : Int32) (2 : Int32)) → (xp_235 M v1 ∧ (((0 : Int32) ≤ (xf_235 M v1) → (xp_236 M v1 v2 ∧ ((v4 = (0 : Int32) → (vp_in v3 6 ∧ True)) ∧ (¬ (v4 = (0 : Int32)) → ((v4 = (1 : Int32) → (vp_in v3 6 ∧ True)) ∧ (¬ (v4 = (1 : Int32)) → (vp_in v3 6 ∧ (vp_in v3 6 ∧ True)))))))) ∧ (¬ ((0 : Int32) ≤ (xf_235 M v1)) → (xp_235 M v1 ∧ True))))) ∧ (¬ ((xf_195 M v4 (0 : Int32) (2 : Int32))) → True))) ∧ (¬ ((xf_204 M v3)) → True))) ∧ (¬ ((xf_234 M v2)) → True))) ∧ (¬ ((xf_198 M v1)) → True))
theorem xs_233 {X : ro_Sx} {M : ro_Mm} {v1 : Int32} {v2 : Int32} {v3 : Int32} {v4 : Int32} (hL : ro_lay M) (hp : xp_233 M v1 v2 v3 v4) : ro_cwp X 7 233 [.ref 163, .int v1, .int v2, .int v3, .int v4] M (fun v M2 => v = some (.int (xf_233 M v1 v2 v3 v4)) ∧ M2 = xm_233 M v1 v2 v3 v4) := by
  refine rs_begin (lv0 := [(0, .ref 163), (1, .int v1), (2, .int v2), (3, .int v3), (4, .int v4)]) (by decide) rfl (by rw [rm_233.1]; exact Nat.le_of_ble_eq_true rfl) rfl ?_
  unfold xp_233 at hp
  refine rs_iload_n ri_233_0 rfl rfl ?_
  refine rs_stat (As := [.int v1]) (r := []) ri_233_1 rfl rm_198.2.2.2 rfl rfl rfl (Nat.le_of_ble_eq_true rfl) (by decide) (by decide) (xs_198 (X := X) hL) ?_
  rintro _ _ ⟨e1, e2⟩
  rw [e1, e2]
  show ro_w X _ 233 _ 4 [(0, .ref 163), (1, .int v1), (2, .int v2), (3, .int v3), (4, .int v4)] [.int (ro_b (xf_198 M v1))] M (0, 0)
  refine rs_ifeq_c (t := 32) ri_233_4 rfl rfl (fun h1 => ?_) (fun h1 => ?_)
  · have hp := hp.2 h1
    refine rs_iconst (v := (-1 : Int32)) ri_233_32 rfl (by decide) ?_
    refine rs_iret ri_233_33 rm_233.2.1 (by decide) ?_
    exact ⟨by unfold xf_233; first | (simp only [if_neg h1]; done) | rfl, by unfold xm_233; first | (simp only [if_neg h1]; done) | rfl⟩
  · have hp := hp.1 h1
    refine rs_iload_n ri_233_7 rfl rfl ?_
    refine rs_stat (As := [.int v2]) (r := []) ri_233_8 rfl rm_234.2.2.2 rfl rfl rfl (Nat.le_of_ble_eq_true rfl) (by decide) (by decide) (xs_234 (X := X) hL) ?_
    rintro _ _ ⟨e1, e2⟩
    rw [e1, e2]
    show ro_w X _ 233 _ 11 [(0, .ref 163), (1, .int v1), (2, .int v2), (3, .int v3), (4, .int v4)] [.int (ro_b (xf_234 M v2))] M (0, 0)
    refine rs_ifeq_c (t := 32) ri_233_11 rfl rfl (fun h2 => ?_) (fun h2 => ?_)
    · have hp := hp.2 h2
      refine rs_iconst (v := (-1 : Int32)) ri_233_32 rfl (by decide) ?_
      refine rs_iret ri_233_33 rm_233.2.1 (by decide) ?_
      exact ⟨by unfold xf_233; first | (simp only [if_pos h1, if_neg h2]; done) | rfl, by unfold xm_233; first | (simp only [if_pos h1, if_neg h2]; done) | rfl⟩
    · have hp := hp.1 h2
      refine rs_aload_n ri_233_14 rfl rfl ?_
      refine rs_iload_n ri_233_15 rfl rfl ?_
      refine rs_virt (As := [.int v3]) (r := []) ri_233_16 rfl (by decide) rm_204.2.2.2 rm_204.2.2.1 rfl rfl rfl (by decide) (ro_kf (kd_163 hL)) (Nat.le_of_ble_eq_true rfl) (by decide) (by decide) (xs_204 (X := X) hL) ?_
      rintro _ _ ⟨e1, e2⟩
      rw [e1, e2]
      show ro_w X _ 233 _ 19 [(0, .ref 163), (1, .int v1), (2, .int v2), (3, .int v3), (4, .int v4)] [.int (ro_b (xf_204 M v3))] M (0, 0)
      refine rs_ifeq_c (t := 32) ri_233_19 rfl rfl (fun h3 => ?_) (fun h3 => ?_)
      · have hp := hp.2 h3
        refine rs_iconst (v := (-1 : Int32)) ri_233_32 rfl (by decide) ?_
        refine rs_iret ri_233_33 rm_233.2.1 (by decide) ?_
        exact ⟨by unfold xf_233; first | (simp only [if_pos h1, if_pos h2, if_neg h3]; done) | rfl, by unfold xm_233; first | (simp only [if_pos h1, if_pos h2, if_neg h3]; done) | rfl⟩
      · have hp := hp.1 h3
        refine rs_iload ri_233_22 rfl rfl ?_
        refine rs_iconst (v := (0 : Int32)) ri_233_24 rfl (by decide) ?_
        refine rs_iconst (v := (2 : Int32)) ri_233_25 rfl (by decide) ?_
        refine rs_stat (As := [.int v4, .int (0 : Int32), .int (2 : Int32)]) (r := []) ri_233_26 rfl rm_195.2.2.2 rfl rfl rfl (Nat.le_of_ble_eq_true rfl) (by decide) (by decide) (xs_195 (X := X) hL) ?_
        rintro _ _ ⟨e1, e2⟩
        rw [e1, e2]
        show ro_w X _ 233 _ 29 [(0, .ref 163), (1, .int v1), (2, .int v2), (3, .int v3), (4, .int v4)] [.int (ro_b (xf_195 M v4 (0 : Int32) (2 : Int32)))] M (0, 0)
        refine rs_ifne_c (t := 34) ri_233_29 rfl rfl (fun h4 => ?_) (fun h4 => ?_)
        · have hp := hp.1 h4
          refine rs_aload_n ri_233_34 rfl rfl ?_
          refine rs_iload_n ri_233_35 rfl rfl ?_
          obtain ⟨q4, hp⟩ := hp
          refine rs_virt (As := [.int v1]) (r := []) ri_233_36 rfl (by decide) rm_235.2.2.2 rm_235.2.2.1 rfl rfl rfl (by decide) (ro_kf (kd_163 hL)) (Nat.le_of_ble_eq_true rfl) (by decide) (by decide) (xs_235 (X := X) hL q4) ?_
          rintro _ _ ⟨e1, e2⟩
          rw [e1, e2]
          show ro_w X _ 233 _ 39 [(0, .ref 163), (1, .int v1), (2, .int v2), (3, .int v3), (4, .int v4)] [.int (xf_235 M v1)] M (0, 0)
          refine rs_if_ge (t := 48) ri_233_39 rfl rfl (fun h6 => ?_) (fun h6 => ?_)
          · have hp := hp.1 h6
            refine rs_aload_n ri_233_48 rfl rfl ?_
            refine rs_iload_n ri_233_49 rfl rfl ?_
            refine rs_iload_n ri_233_50 rfl rfl ?_
            obtain ⟨q6, hp⟩ := hp
            refine rs_virt (As := [.int v1, .int v2]) (r := []) ri_233_51 rfl (by decide) rm_236.2.2.2 rm_236.2.2.1 rfl rfl rfl (by decide) (ro_kf (kd_163 hL)) (Nat.le_of_ble_eq_true rfl) (by decide) (by decide) (xs_236 (X := X) hL q6) ?_
            rintro _ _ ⟨e1, e2⟩
            rw [e1, e2]
            show ro_w X _ 233 _ 54 [(0, .ref 163), (1, .int v1), (2, .int v2), (3, .int v3), (4, .int v4)] [] (xm_236 M v1 v2) (0, 0)
            refine rs_iload ri_233_54 rfl rfl ?_
            refine rs_if_ne (t := 68) ri_233_56 rfl rfl (fun h8 => ?_) (fun h8 => ?_)
            · have hp := hp.2 h8
              refine rs_iload ri_233_68 rfl rfl ?_
              refine rs_iconst (v := (1 : Int32)) ri_233_70 rfl (by decide) ?_
              refine rs_icmp_ne (t := 83) ri_233_71 rfl rfl (fun h9 => ?_) (fun h9 => ?_)
              · have hp := hp.2 h9
                refine rs_iconst (v := (4 : Int32)) ri_233_83 rfl (by decide) ?_
                refine rs_aload_n ri_233_84 rfl rfl ?_
                refine rs_gf (v := .ref 181) ri_233_85 rfl (by decide) (ro_kf (kd_163 (xl_236 hL q6))) rfl (rf_163_27 (xl_236 hL q6)) ?_
                refine rs_iload_n ri_233_88 rfl rfl ?_
                obtain ⟨q9, hp⟩ := hp
                refine rs_iald (v := ((xm_236 M v1 v2).2.1 181 (v3.toNatClampNeg))) ri_233_89 rfl (by decide) (kd_181 (xl_236 hL q6)) q9 rfl ?_
                refine rs_imul (r := ((4 : Int32) * ((xm_236 M v1 v2).2.1 181 (v3.toNatClampNeg)))) ri_233_90 rfl rfl ?_
                refine rs_aload_n ri_233_91 rfl rfl ?_
                refine rs_gf (v := .ref 168) ri_233_92 rfl (by decide) (ro_kf (kd_163 (xl_236 hL q6))) rfl (rf_163_6 (xl_236 hL q6)) ?_
                refine rs_iconst (v := (0 : Int32)) ri_233_95 rfl (by decide) ?_
                refine rs_iald (v := (M.2.1 168 0)) ri_233_96 rfl (by decide) (kd_168 (xl_236 hL q6)) (vp_in_iff.mpr ⟨by decide, by decide⟩) (xwI_236 (by decide) (by decide) (by decide) (by decide) (by decide)) ?_
                refine rs_aload_n ri_233_97 rfl rfl ?_
                refine rs_gf (v := .ref 182) ri_233_98 rfl (by decide) (ro_kf (kd_163 (xl_236 hL q6))) rfl (rf_163_28 (xl_236 hL q6)) ?_
                refine rs_iload_n ri_233_101 rfl rfl ?_
                obtain ⟨q10, hp⟩ := hp
                refine rs_iald (v := ((xm_236 M v1 v2).2.1 182 (v3.toNatClampNeg))) ri_233_102 rfl (by decide) (kd_182 (xl_236 hL q6)) q10 rfl ?_
                refine rs_imul (r := ((M.2.1 168 0) * ((xm_236 M v1 v2).2.1 182 (v3.toNatClampNeg)))) ri_233_103 rfl rfl ?_
                refine rs_iadd (r := (((4 : Int32) * ((xm_236 M v1 v2).2.1 181 (v3.toNatClampNeg))) + ((M.2.1 168 0) * ((xm_236 M v1 v2).2.1 182 (v3.toNatClampNeg))))) ri_233_104 rfl rfl ?_
                refine rs_iret ri_233_105 rm_233.2.1 (by decide) ?_
                exact ⟨by unfold xf_233; first | (simp only [if_pos h1, if_pos h2, if_pos h3, if_pos h4, if_pos h6, if_neg h8, if_neg h9]; done) | rfl, by unfold xm_233; first | (simp only [if_pos h1, if_pos h2, if_pos h3, if_pos h4, if_pos h6, if_neg h8, if_neg h9]; done) | rfl⟩
              · have hp := hp.1 h9
                refine rs_aload_n ri_233_74 rfl rfl ?_
                refine rs_gf (v := .ref 182) ri_233_75 rfl (by decide) (ro_kf (kd_163 (xl_236 hL q6))) rfl (rf_163_28 (xl_236 hL q6)) ?_
                refine rs_iload_n ri_233_78 rfl rfl ?_
                obtain ⟨q11, hp⟩ := hp
                refine rs_iald (v := ((xm_236 M v1 v2).2.1 182 (v3.toNatClampNeg))) ri_233_79 rfl (by decide) (kd_182 (xl_236 hL q6)) q11 rfl ?_
                refine rs_goto (t := 105) ri_233_80 rfl ?_
                refine rs_iret ri_233_105 rm_233.2.1 (by decide) ?_
                exact ⟨by unfold xf_233; first | (simp only [if_pos h1, if_pos h2, if_pos h3, if_pos h4, if_pos h6, if_neg h8, if_pos h9]; done) | rfl, by unfold xm_233; first | (simp only [if_pos h1, if_pos h2, if_pos h3, if_pos h4, if_pos h6, if_neg h8, if_pos h9]; done) | rfl⟩
            · have hp := hp.1 h8
              refine rs_aload_n ri_233_59 rfl rfl ?_
              refine rs_gf (v := .ref 181) ri_233_60 rfl (by decide) (ro_kf (kd_163 (xl_236 hL q6))) rfl (rf_163_27 (xl_236 hL q6)) ?_
              refine rs_iload_n ri_233_63 rfl rfl ?_
              obtain ⟨q12, hp⟩ := hp
              refine rs_iald (v := ((xm_236 M v1 v2).2.1 181 (v3.toNatClampNeg))) ri_233_64 rfl (by decide) (kd_181 (xl_236 hL q6)) q12 rfl ?_
              refine rs_goto (t := 105) ri_233_65 rfl ?_
              refine rs_iret ri_233_105 rm_233.2.1 (by decide) ?_
              exact ⟨by unfold xf_233; first | (simp only [if_pos h1, if_pos h2, if_pos h3, if_pos h4, if_pos h6, if_pos h8]; done) | rfl, by unfold xm_233; first | (simp only [if_pos h1, if_pos h2, if_pos h3, if_pos h4, if_pos h6, if_pos h8]; done) | rfl⟩
          · have hp := hp.2 h6
            refine rs_aload_n ri_233_42 rfl rfl ?_
            refine rs_iload_n ri_233_43 rfl rfl ?_
            obtain ⟨q13, hp⟩ := hp
            refine rs_virt (As := [.int v1]) (r := []) ri_233_44 rfl (by decide) rm_235.2.2.2 rm_235.2.2.1 rfl rfl rfl (by decide) (ro_kf (kd_163 hL)) (Nat.le_of_ble_eq_true rfl) (by decide) (by decide) (xs_235 (X := X) hL q13) ?_
            rintro _ _ ⟨e1, e2⟩
            rw [e1, e2]
            show ro_w X _ 233 _ 47 [(0, .ref 163), (1, .int v1), (2, .int v2), (3, .int v3), (4, .int v4)] [.int (xf_235 M v1)] M (0, 0)
            refine rs_iret ri_233_47 rm_233.2.1 (by decide) ?_
            exact ⟨by unfold xf_233; first | (simp only [if_pos h1, if_pos h2, if_pos h3, if_pos h4, if_neg h6]; done) | rfl, by unfold xm_233; first | (simp only [if_pos h1, if_pos h2, if_pos h3, if_pos h4, if_neg h6]; done) | rfl⟩
        · have hp := hp.2 h4
          refine rs_iconst (v := (-1 : Int32)) ri_233_32 rfl (by decide) ?_
          refine rs_iret ri_233_33 rm_233.2.1 (by decide) ?_
          exact ⟨by unfold xf_233; first | (simp only [if_pos h1, if_pos h2, if_pos h3, if_neg h4]; done) | rfl, by unfold xm_233; first | (simp only [if_pos h1, if_pos h2, if_pos h3, if_neg h4]; done) | rfl⟩
theorem xl_233 {M : ro_Mm} {v1 : Int32} {v2 : Int32} {v3 : Int32} {v4 : Int32} (hL : ro_lay M) (hp : xp_233 M v1 v2 v3 v4) : ro_lay (xm_233 M v1 v2 v3 v4) := by
  unfold xp_233 at hp
  unfold xm_233
  by_cases hz : (xf_198 M v1)
  · have hp := hp.1 hz
    rw [if_pos hz]
    by_cases hz : (xf_234 M v2)
    · have hp := hp.1 hz
      rw [if_pos hz]
      by_cases hz : (xf_204 M v3)
      · have hp := hp.1 hz
        rw [if_pos hz]
        by_cases hz : (xf_195 M v4 (0 : Int32) (2 : Int32))
        · have hp := hp.1 hz
          rw [if_pos hz]
          obtain ⟨q4, hp⟩ := hp
          by_cases hz : (0 : Int32) ≤ (xf_235 M v1)
          · have hp := hp.1 hz
            rw [if_pos hz]
            obtain ⟨q6, hp⟩ := hp
            by_cases hz : v4 = (0 : Int32)
            · have hp := hp.1 hz
              obtain ⟨q12, hp⟩ := hp
              exact (xl_236 hL q6)
            · have hp := hp.2 hz
              by_cases hz : v4 = (1 : Int32)
              · have hp := hp.1 hz
                obtain ⟨q11, hp⟩ := hp
                exact (xl_236 hL q6)
              · have hp := hp.2 hz
                obtain ⟨q9, hp⟩ := hp
                obtain ⟨q10, hp⟩ := hp
                exact (xl_236 hL q6)
          · have hp := hp.2 hz
            rw [if_neg hz]
            obtain ⟨q13, hp⟩ := hp
            exact hL
        · have hp := hp.2 hz
          rw [if_neg hz]
          exact hL
      · have hp := hp.2 hz
        rw [if_neg hz]
        exact hL
    · have hp := hp.2 hz
      rw [if_neg hz]
      exact hL
  · have hp := hp.2 hz
    rw [if_neg hz]
    exact hL
theorem xwI_233 {M : ro_Mm} {v1 : Int32} {v2 : Int32} {v3 : Int32} {v4 : Int32} {c j : Nat} (n0 : c ≠ 181) (n1 : c ≠ 182) (n2 : c ≠ 163) (n3 : c ≠ 179) (n4 : c ≠ 180) : (xm_233 M v1 v2 v3 v4).2.1 c j = M.2.1 c j := by
  unfold xm_233
  by_cases hz : (xf_198 M v1)
  · rw [if_pos hz]
    by_cases hz : (xf_234 M v2)
    · rw [if_pos hz]
      by_cases hz : (xf_204 M v3)
      · rw [if_pos hz]
        by_cases hz : (xf_195 M v4 (0 : Int32) (2 : Int32))
        · rw [if_pos hz]
          by_cases hz : (0 : Int32) ≤ (xf_235 M v1)
          · rw [if_pos hz]
            first | done | exact (xwI_236 n0 n1 n2 n3 n4)
          · rw [if_neg hz]
            first | done | exact rfl
        · rw [if_neg hz]
          first | done | exact rfl
      · rw [if_neg hz]
        first | done | exact rfl
    · rw [if_neg hz]
      first | done | exact rfl
  · rw [if_neg hz]
    first | done | exact rfl
theorem xwJ_233 {M : ro_Mm} {v1 : Int32} {v2 : Int32} {v3 : Int32} {v4 : Int32} {c j : Nat} : (xm_233 M v1 v2 v3 v4).2.2.1 c j = M.2.2.1 c j := by
  unfold xm_233
  by_cases hz : (xf_198 M v1)
  · rw [if_pos hz]
    by_cases hz : (xf_234 M v2)
    · rw [if_pos hz]
      by_cases hz : (xf_204 M v3)
      · rw [if_pos hz]
        by_cases hz : (xf_195 M v4 (0 : Int32) (2 : Int32))
        · rw [if_pos hz]
          by_cases hz : (0 : Int32) ≤ (xf_235 M v1)
          · rw [if_pos hz]
            first | done | exact (xwJ_236)
          · rw [if_neg hz]
            first | done | exact rfl
        · rw [if_neg hz]
          first | done | exact rfl
      · rw [if_neg hz]
        first | done | exact rfl
    · rw [if_neg hz]
      first | done | exact rfl
  · rw [if_neg hz]
    first | done | exact rfl
