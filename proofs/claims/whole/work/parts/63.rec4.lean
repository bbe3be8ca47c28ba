/-! methods that call themselves, by program (wip/whole/walk3.py, mk47.py) -/
/-- RefusedOnceModel.goBehind(II)V -/
noncomputable def xmb_269 (F269 : ro_Mm → Int32 → Int32 → ro_Mm) (M : ro_Mm) (v1 : Int32) (v2 : Int32) : ro_Mm := (if v1 = (M.2.1 163 37) then (if (xf_270 M) then (xm_271 M v2) else M) else (if (ro_irem (xf_238 M (M.2.1 163 35) v1) (2 : Int32)) = (1 : Int32) then (if (xf_240 M ((xf_238 M (M.2.1 163 35) v1) / (20 : Int32)) ((ro_irem (xf_238 M (M.2.1 163 35) v1) (20 : Int32)) / (2 : Int32))) then (xm_242 (F269 (xm_242 M ((xf_238 M (M.2.1 163 35) v1) / (20 : Int32)) ((ro_irem (xf_238 M (M.2.1 163 35) v1) (20 : Int32)) / (2 : Int32))) (v1 + (1 : Int32)) v2) ((ro_irem (xf_238 M (M.2.1 163 35) v1) (20 : Int32)) / (2 : Int32)) ((xf_238 M (M.2.1 163 35) v1) / (20 : Int32))) else M) else (if (xf_241 M ((xf_238 M (M.2.1 163 35) v1) / (20 : Int32)) ((ro_irem (xf_238 M (M.2.1 163 35) v1) (20 : Int32)) / (2 : Int32))) then (ro_sI (ro_sI (F269 (xm_244 (xm_245 (F269 (xm_245 M ((xf_238 M (M.2.1 163 35) v1) / (20 : Int32)) ((ro_irem (xf_238 M (M.2.1 163 35) v1) (20 : Int32)) / (2 : Int32))) (v1 + (1 : Int32)) v2) ((ro_irem (xf_238 M (M.2.1 163 35) v1) (20 : Int32)) / (2 : Int32)) ((xf_238 M (M.2.1 163 35) v1) / (20 : Int32))) ((xf_238 M (M.2.1 163 35) v1) / (20 : Int32))) (v1 + (1 : Int32)) (v2 ||| ((1 : Int32) <<< (v1 &&& 31)))) 181 (((xf_238 M (M.2.1 163 35) v1) / (20 : Int32)).toNatClampNeg) (((F269 (xm_244 (xm_245 (F269 (xm_245 M ((xf_238 M (M.2.1 163 35) v1) / (20 : Int32)) ((ro_irem (xf_238 M (M.2.1 163 35) v1) (20 : Int32)) / (2 : Int32))) (v1 + (1 : Int32)) v2) ((ro_irem (xf_238 M (M.2.1 163 35) v1) (20 : Int32)) / (2 : Int32)) ((xf_238 M (M.2.1 163 35) v1) / (20 : Int32))) ((xf_238 M (M.2.1 163 35) v1) / (20 : Int32))) (v1 + (1 : Int32)) (v2 ||| ((1 : Int32) <<< (v1 &&& 31)))).2.1 181 (((xf_238 M (M.2.1 163 35) v1) / (20 : Int32)).toNatClampNeg)) + (1 : Int32))) 182 (((xf_238 M (M.2.1 163 35) v1) / (20 : Int32)).toNatClampNeg) (((F269 (xm_244 (xm_245 (F269 (xm_245 M ((xf_238 M (M.2.1 163 35) v1) / (20 : Int32)) ((ro_irem (xf_238 M (M.2.1 163 35) v1) (20 : Int32)) / (2 : Int32))) (v1 + (1 : Int32)) v2) ((ro_irem (xf_238 M (M.2.1 163 35) v1) (20 : Int32)) / (2 : Int32)) ((xf_238 M (M.2.1 163 35) v1) / (20 : Int32))) ((xf_238 M (M.2.1 163 35) v1) / (20 : Int32))) (v1 + (1 : Int32)) (v2 ||| ((1 : Int32) <<< (v1 &&& 31)))).2.1 182 (((xf_238 M (M.2.1 163 35) v1) / (20 : Int32)).toNatClampNeg)) - (1 : Int32))) else M)))
def xpb_269 (F269 : ro_Mm → Int32 → Int32 → ro_Mm) (P269 : ro_Mm → Int32 → Int32 → Prop) (M : ro_Mm) (v1 : Int32) (v2 : Int32) : Prop := ((v1 = (M.2.1 163 37) → (xp_270 M ∧ (((xf_270 M) → (xp_271 M v2 ∧ True)) ∧ (¬ ((xf_270 M)) → True)))) ∧ (¬ (v1 = (M.2.1 163 37)) → (xp_238 M (M.2.1 163 35) v1 ∧ (xp_238 M (M.2.1 163 35) v1 ∧ (xp_238 M (M.2.1 163 35) v1 ∧ (((ro_irem (xf_238 M (M.2.1 163 35) v1) (2 : Int32)) = (1 : Int32) → (xp_240 M ((xf_238 M (M.2.1 163 35) v1) / (20 : Int32)) ((ro_irem (xf_238 M (M.2.1 163 35) v1) (20 : Int32)) / (2 : Int32)) ∧ (((xf_240 M ((xf_238 M (M.2.1 163 35) v1) / (20 : Int32)) ((ro_irem (xf_238 M (M.2.1 163 35) v1) (20 : Int32)) / (2 : Int32))) → (xp_242 M ((xf_238 M (M.2.1 163 35) v1) / (20 : Int32)) ((ro_irem (xf_238 M (M.2.1 163 35) v1) (20 : Int32)) / (2 : Int32)) ∧ (P269 (xm_242 M ((xf_238 M (M.2.1 163 35) v1) / (20 : Int32)) ((ro_irem (xf_238 M (M.2.1 163 35) v1) (20 : Int32)) / (2 : Int32))) (v1 + (1 : Int32)) v2 ∧ (xp_242 (F269 (xm_242 M ((xf_238 M (M.2.1 163 35) v1) / (20 : Int32)) ((ro_irem (xf_238 M (M.2.1 163 35) v1) (20 : Int32)) / (2 : Int32))) (v1 + (1 : Int32)) v2) ((ro_irem (xf_238 M (M.2.1 163 35) v1) (20 : Int32)) / (2 : Int32)) ((xf_238 M (M.2.1 163 35) v1) / (20 : Int32)) ∧ True)))) ∧ (¬ ((xf_240 M ((xf_238 M (M.2.1 163 35) v1) / (20 : Int32)) ((ro_irem (xf_238 M (M.2.1 163 35) v1) (20 : Int32)) / (2 : Int32)))) → True)))) ∧ (¬ ((ro_irem (xf_238 M (M.2.1 163 35) v1) (2 : Int32)) = (1 : Int32)) → (xp_241 M ((xf_238 M (M.2.1 163 35) v1) / (20 : Int32)) ((ro_irem (xf_238 M (M.2.1 163 35) v1) (20 : Int32)) / (2 : Int32)) ∧ (((xf_241 M ((xf_238 M (M.2.1 163 35) v1) / (20 : Int32)) ((ro_irem (xf_238 M (M.2.1 163 35) v1) (20 : Int32)) / (2 : Int32))) → (xp_245 M ((xf_238 M (M.2.1 163 35) v1) / (20 : Int32)) ((ro_irem (xf_238 M (M.2.1 163 35) v1) (20 : Int32)) / (2 : Int32)) ∧ (P269 (xm_245 M ((xf_238 M (M.2.1 163 35) v1) / (20 : Int32)) ((ro_irem (xf_238 M (M.2.1 163 35) v1) (20 : Int32)) / (2 : Int32))) (v1 + (1 : Int32)) v2 ∧ (xp_245 (F269 (xm_245 M ((xf_238 M (M.2.1 163 35) v1) / (20 : Int32)) ((ro_irem (xf_238 M (M.2.1 163 35) v1) (20 : Int32)) / (2 : Int32))) (v1 + (1 : Int32)) v2) ((ro_irem (xf_238 M (M.2.1 163 35) v1) (20 : Int32)) / (2 : Int32)) ((xf_238 M (M.2.1 163 35) v1) / (20 : Int32)) ∧ (xp_244 (xm_245 (F269 (xm_245 M ((xf_238 M (M.2.1 163 35) v1) / (20 : Int32)) ((ro_irem (xf_238 M (M.2.1 163 35) v1) (20 : Int32)) / (2 : Int32))) (v1 + (1 : Int32)) v2) ((ro_irem (xf_238 M (M.2.1 163 35) v1) (20 : Int32)) / (2 : Int32)) ((xf_238 M (M.2.1 163 35) v1) / (20 : Int32))) ((xf_238 M (M.2.1 163 35) v1) / (20 : Int32)) ∧ (P269 (xm_244 (xm_245 (F269 (xm_245 M ((xf_238 M (M.2.1 163 35) v1) / (20 : Int32)) ((ro_irem (xf_238 M (M.2.1 163 35) v1) (20 : Int32)) / (2 : Int32))) (v1 + (1 : Int32)) v2) ((ro_irem (xf_238 M (M.2.1 163 35) v1) (20 : Int32)) / (2 : Int32)) ((xf_238 M (M.2.1 163 35) v1) / (20 : Int32))) ((xf_238 M (M.2.1 163 35) v1) / (20 : Int32))) (v1 + (1 : Int32)) (v2 ||| ((1 : Int32) <<< (v1 &&& 31))) ∧ (vp_in ((xf_238 M (M.2.1 163 35) v1) / (20 : Int32)) 6 ∧ (vp_in ((xf_238 M (M.2.1 163 35) v1) / (20 : Int32)) 6 ∧ (vp_in ((xf_238 M (M.2.1 163 35) v1) / (20 : Int32)) 6 ∧ (vp_in ((xf_238 M (M.2.1 163 35) v1) / (20 : Int32)) 6 ∧ True)))))))))) ∧ (¬ ((xf_241 M ((xf_238 M (M.2.1 163 35) v1) / (20 : Int32)) ((ro_irem (xf_238 M (M.2.1 163 35) v1) (20 : Int32)) / (2 : Int32)))) → True))))))))))
theorem xsb_269 {X : ro_Sx} {k : Nat} {F269 : ro_Mm → Int32 → Int32 → ro_Mm} {P269 : ro_Mm → Int32 → Int32 → Prop} (hF269 : ∀ {M : ro_Mm} {v1 : Int32} {v2 : Int32}, ro_lay M → P269 M v1 v2 → ro_cwp X k 269 [.ref 163, .int v1, .int v2] M (fun v M2 => v = none ∧ M2 = (F269 M v1 v2))) (hl269 : ∀ {M : ro_Mm} {v1 : Int32} {v2 : Int32}, ro_lay M → P269 M v1 v2 → ro_lay (F269 M v1 v2)) {M : ro_Mm} {v1 : Int32} {v2 : Int32} (hL : ro_lay M) (hp : xpb_269 F269 P269 M v1 v2) : ro_cwp X (k + 3) 269 [.ref 163, .int v1, .int v2] M (fun v M2 => v = none ∧ M2 = xmb_269 F269 M v1 v2) := by
  refine rs_begin (lv0 := [(0, .ref 163), (1, .int v1), (2, .int v2)]) (by decide) rfl (by rw [rm_269.1]; exact Nat.le_of_ble_eq_true rfl) rfl ?_
  unfold xpb_269 at hp
  refine rs_iload_n ri_269_0 rfl rfl ?_
  refine rs_aload_n ri_269_1 rfl rfl ?_
  refine rs_gf (v := .int (M.2.1 163 37)) ri_269_2 rfl (by decide) (ro_kf (kd_163 hL)) rfl rfl ?_
  refine rs_icmp_ne (t := 21) ri_269_5 rfl rfl (fun h1 => ?_) (fun h1 => ?_)
  · have hp := hp.2 h1
    refine rs_aload_n ri_269_21 rfl rfl ?_
    refine rs_aload_n ri_269_22 rfl rfl ?_
    refine rs_gf (v := .int (M.2.1 163 35)) ri_269_23 rfl (by decide) (ro_kf (kd_163 hL)) rfl rfl ?_
    refine rs_iload_n ri_269_26 rfl rfl ?_
    obtain ⟨q1, hp⟩ := hp
    refine rs_virt (As := [.int (M.2.1 163 35), .int v1]) (r := []) ri_269_27 rfl (by decide) rm_238.2.2.2 rm_238.2.2.1 rfl rfl rfl (by decide) (ro_kf (kd_163 hL)) (Nat.le_of_ble_eq_true rfl) (by decide) (by omega) (xs_238 (X := X) hL q1) ?_
    rintro _ _ ⟨e1, e2⟩
    rw [e1, e2]
    show ro_w X _ 269 _ 30 [(0, .ref 163), (1, .int v1), (2, .int v2)] [.int (xf_238 M (M.2.1 163 35) v1)] M (0, 0)
    refine rs_bipush (v := (20 : Int32)) ri_269_30 rfl (by decide) ?_
    refine rs_idiv (r := ((xf_238 M (M.2.1 163 35) v1) / (20 : Int32))) ri_269_32 rfl (by decide) rfl ?_
    refine rs_istore_n (lv2 := [(3, .int ((xf_238 M (M.2.1 163 35) v1) / (20 : Int32))), (0, .ref 163), (1, .int v1), (2, .int v2)]) ri_269_33 rfl rm_269.1 (by decide) rfl ?_
    refine rs_aload_n ri_269_34 rfl rfl ?_
    refine rs_aload_n ri_269_35 rfl rfl ?_
    refine rs_gf (v := .int (M.2.1 163 35)) ri_269_36 rfl (by decide) (ro_kf (kd_163 hL)) rfl rfl ?_
    refine rs_iload_n ri_269_39 rfl rfl ?_
    obtain ⟨q2, hp⟩ := hp
    refine rs_virt (As := [.int (M.2.1 163 35), .int v1]) (r := []) ri_269_40 rfl (by decide) rm_238.2.2.2 rm_238.2.2.1 rfl rfl rfl (by decide) (ro_kf (kd_163 hL)) (Nat.le_of_ble_eq_true rfl) (by decide) (by omega) (xs_238 (X := X) hL q2) ?_
    rintro _ _ ⟨e1, e2⟩
    rw [e1, e2]
    show ro_w X _ 269 _ 43 [(3, .int ((xf_238 M (M.2.1 163 35) v1) / (20 : Int32))), (0, .ref 163), (1, .int v1), (2, .int v2)] [.int (xf_238 M (M.2.1 163 35) v1)] M (0, 0)
    refine rs_bipush (v := (20 : Int32)) ri_269_43 rfl (by decide) ?_
    refine rs_irem (r := (ro_irem (xf_238 M (M.2.1 163 35) v1) (20 : Int32))) ri_269_45 rfl (by decide) rfl ?_
    refine rs_iconst (v := (2 : Int32)) ri_269_46 rfl (by decide) ?_
    refine rs_idiv (r := ((ro_irem (xf_238 M (M.2.1 163 35) v1) (20 : Int32)) / (2 : Int32))) ri_269_47 rfl (by decide) rfl ?_
    refine rs_istore (lv2 := [(4, .int ((ro_irem (xf_238 M (M.2.1 163 35) v1) (20 : Int32)) / (2 : Int32))), (3, .int ((xf_238 M (M.2.1 163 35) v1) / (20 : Int32))), (0, .ref 163), (1, .int v1), (2, .int v2)]) ri_269_48 rfl rm_269.1 (by decide) rfl ?_
    refine rs_aload_n ri_269_50 rfl rfl ?_
    refine rs_aload_n ri_269_51 rfl rfl ?_
    refine rs_gf (v := .int (M.2.1 163 35)) ri_269_52 rfl (by decide) (ro_kf (kd_163 hL)) rfl rfl ?_
    refine rs_iload_n ri_269_55 rfl rfl ?_
    obtain ⟨q3, hp⟩ := hp
    refine rs_virt (As := [.int (M.2.1 163 35), .int v1]) (r := []) ri_269_56 rfl (by decide) rm_238.2.2.2 rm_238.2.2.1 rfl rfl rfl (by decide) (ro_kf (kd_163 hL)) (Nat.le_of_ble_eq_true rfl) (by decide) (by omega) (xs_238 (X := X) hL q3) ?_
    rintro _ _ ⟨e1, e2⟩
    rw [e1, e2]
    show ro_w X _ 269 _ 59 [(4, .int ((ro_irem (xf_238 M (M.2.1 163 35) v1) (20 : Int32)) / (2 : Int32))), (3, .int ((xf_238 M (M.2.1 163 35) v1) / (20 : Int32))), (0, .ref 163), (1, .int v1), (2, .int v2)] [.int (xf_238 M (M.2.1 163 35) v1)] M (0, 0)
    refine rs_iconst (v := (2 : Int32)) ri_269_59 rfl (by decide) ?_
    refine rs_irem (r := (ro_irem (xf_238 M (M.2.1 163 35) v1) (2 : Int32))) ri_269_60 rfl (by decide) rfl ?_
    refine rs_iconst (v := (1 : Int32)) ri_269_61 rfl (by decide) ?_
    refine rs_icmp_ne (t := 99) ri_269_62 rfl rfl (fun h5 => ?_) (fun h5 => ?_)
    · have hp := hp.2 h5
      refine rs_aload_n ri_269_99 rfl rfl ?_
      refine rs_iload_n ri_269_100 rfl rfl ?_
      refine rs_iload ri_269_101 rfl rfl ?_
      obtain ⟨q5, hp⟩ := hp
      refine rs_virt (As := [.int ((xf_238 M (M.2.1 163 35) v1) / (20 : Int32)), .int ((ro_irem (xf_238 M (M.2.1 163 35) v1) (20 : Int32)) / (2 : Int32))]) (r := []) ri_269_103 rfl (by decide) rm_241.2.2.2 rm_241.2.2.1 rfl rfl rfl (by decide) (ro_kf (kd_163 hL)) (Nat.le_of_ble_eq_true rfl) (by decide) (by omega) (xs_241 (X := X) hL q5) ?_
      rintro _ _ ⟨e1, e2⟩
      rw [e1, e2]
      show ro_w X _ 269 _ 106 [(4, .int ((ro_irem (xf_238 M (M.2.1 163 35) v1) (20 : Int32)) / (2 : Int32))), (3, .int ((xf_238 M (M.2.1 163 35) v1) / (20 : Int32))), (0, .ref 163), (1, .int v1), (2, .int v2)] [.int (ro_b (xf_241 M ((xf_238 M (M.2.1 163 35) v1) / (20 : Int32)) ((ro_irem (xf_238 M (M.2.1 163 35) v1) (20 : Int32)) / (2 : Int32))))] M (0, 0)
      refine rs_ifne_c (t := 110) ri_269_106 rfl rfl (fun h7 => ?_) (fun h7 => ?_)
      · have hp := hp.1 h7
        refine rs_aload_n ri_269_110 rfl rfl ?_
        refine rs_iload_n ri_269_111 rfl rfl ?_
        refine rs_iload ri_269_112 rfl rfl ?_
        obtain ⟨q7, hp⟩ := hp
        refine rs_virt (As := [.int ((xf_238 M (M.2.1 163 35) v1) / (20 : Int32)), .int ((ro_irem (xf_238 M (M.2.1 163 35) v1) (20 : Int32)) / (2 : Int32))]) (r := []) ri_269_114 rfl (by decide) rm_245.2.2.2 rm_245.2.2.1 rfl rfl rfl (by decide) (ro_kf (kd_163 hL)) (Nat.le_of_ble_eq_true rfl) (by decide) (by omega) (xs_245 (X := X) hL q7) ?_
        rintro _ _ ⟨e1, e2⟩
        rw [e1, e2]
        show ro_w X _ 269 _ 117 [(4, .int ((ro_irem (xf_238 M (M.2.1 163 35) v1) (20 : Int32)) / (2 : Int32))), (3, .int ((xf_238 M (M.2.1 163 35) v1) / (20 : Int32))), (0, .ref 163), (1, .int v1), (2, .int v2)] [] (xm_245 M ((xf_238 M (M.2.1 163 35) v1) / (20 : Int32)) ((ro_irem (xf_238 M (M.2.1 163 35) v1) (20 : Int32)) / (2 : Int32))) (0, 0)
        refine rs_aload_n ri_269_117 rfl rfl ?_
        refine rs_iload_n ri_269_118 rfl rfl ?_
        refine rs_iconst (v := (1 : Int32)) ri_269_119 rfl (by decide) ?_
        refine rs_iadd (r := (v1 + (1 : Int32))) ri_269_120 rfl rfl ?_
        refine rs_iload_n ri_269_121 rfl rfl ?_
        obtain ⟨q8, hp⟩ := hp
        refine rs_virt (As := [.int (v1 + (1 : Int32)), .int v2]) (r := []) ri_269_122 rfl (by decide) rm_269.2.2.2 rm_269.2.2.1 rfl rfl rfl (by decide) (ro_kf (kd_163 (xl_245 hL q7))) (Nat.le_of_ble_eq_true rfl) (by decide) (by omega) (hF269 (xl_245 hL q7) q8) ?_
        rintro _ _ ⟨e1, e2⟩
        rw [e1, e2]
        show ro_w X _ 269 _ 125 [(4, .int ((ro_irem (xf_238 M (M.2.1 163 35) v1) (20 : Int32)) / (2 : Int32))), (3, .int ((xf_238 M (M.2.1 163 35) v1) / (20 : Int32))), (0, .ref 163), (1, .int v1), (2, .int v2)] [] (F269 (xm_245 M ((xf_238 M (M.2.1 163 35) v1) / (20 : Int32)) ((ro_irem (xf_238 M (M.2.1 163 35) v1) (20 : Int32)) / (2 : Int32))) (v1 + (1 : Int32)) v2) (0, 0)
        refine rs_aload_n ri_269_125 rfl rfl ?_
        refine rs_iload ri_269_126 rfl rfl ?_
        refine rs_iload_n ri_269_128 rfl rfl ?_
        obtain ⟨q9, hp⟩ := hp
        refine rs_virt (As := [.int ((ro_irem (xf_238 M (M.2.1 163 35) v1) (20 : Int32)) / (2 : Int32)), .int ((xf_238 M (M.2.1 163 35) v1) / (20 : Int32))]) (r := []) ri_269_129 rfl (by decide) rm_245.2.2.2 rm_245.2.2.1 rfl rfl rfl (by decide) (ro_kf (kd_163 (hl269 (xl_245 hL q7) q8))) (Nat.le_of_ble_eq_true rfl) (by decide) (by omega) (xs_245 (X := X) (hl269 (xl_245 hL q7) q8) q9) ?_
        rintro _ _ ⟨e1, e2⟩
        rw [e1, e2]
        show ro_w X _ 269 _ 132 [(4, .int ((ro_irem (xf_238 M (M.2.1 163 35) v1) (20 : Int32)) / (2 : Int32))), (3, .int ((xf_238 M (M.2.1 163 35) v1) / (20 : Int32))), (0, .ref 163), (1, .int v1), (2, .int v2)] [] (xm_245 (F269 (xm_245 M ((xf_238 M (M.2.1 163 35) v1) / (20 : Int32)) ((ro_irem (xf_238 M (M.2.1 163 35) v1) (20 : Int32)) / (2 : Int32))) (v1 + (1 : Int32)) v2) ((ro_irem (xf_238 M (M.2.1 163 35) v1) (20 : Int32)) / (2 : Int32)) ((xf_238 M (M.2.1 163 35) v1) / (20 : Int32))) (0, 0)
        refine rs_aload_n ri_269_132 rfl rfl ?_
        refine rs_iload_n ri_269_133 rfl rfl ?_
        obtain ⟨q10, hp⟩ := hp
        refine rs_virt (As := [.int ((xf_238 M (M.2.1 163 35) v1) / (20 : Int32))]) (r := []) ri_269_134 rfl (by decide) rm_244.2.2.2 rm_244.2.2.1 rfl rfl rfl (by decide) (ro_kf (kd_163 (xl_245 (hl269 (xl_245 hL q7) q8) q9))) (Nat.le_of_ble_eq_true rfl) (by decide) (by omega) (xs_244 (X := X) (xl_245 (hl269 (xl_245 hL q7) q8) q9) q10) ?_
        rintro _ _ ⟨e1, e2⟩
        rw [e1, e2]
        show ro_w X _ 269 _ 137 [(4, .int ((ro_irem (xf_238 M (M.2.1 163 35) v1) (20 : Int32)) / (2 : Int32))), (3, .int ((xf_238 M (M.2.1 163 35) v1) / (20 : Int32))), (0, .ref 163), (1, .int v1), (2, .int v2)] [] (xm_244 (xm_245 (F269 (xm_245 M ((xf_238 M (M.2.1 163 35) v1) / (20 : Int32)) ((ro_irem (xf_238 M (M.2.1 163 35) v1) (20 : Int32)) / (2 : Int32))) (v1 + (1 : Int32)) v2) ((ro_irem (xf_238 M (M.2.1 163 35) v1) (20 : Int32)) / (2 : Int32)) ((xf_238 M (M.2.1 163 35) v1) / (20 : Int32))) ((xf_238 M (M.2.1 163 35) v1) / (20 : Int32))) (0, 0)
        refine rs_aload_n ri_269_137 rfl rfl ?_
        refine rs_iload_n ri_269_138 rfl rfl ?_
        refine rs_iconst (v := (1 : Int32)) ri_269_139 rfl (by decide) ?_
        refine rs_iadd (r := (v1 + (1 : Int32))) ri_269_140 rfl rfl ?_
        refine rs_iload_n ri_269_141 rfl rfl ?_
        refine rs_iconst (v := (1 : Int32)) ri_269_142 rfl (by decide) ?_
        refine rs_iload_n ri_269_143 rfl rfl ?_
        refine rs_ishl (r := ((1 : Int32) <<< (v1 &&& 31))) ri_269_144 rfl rfl ?_
        refine rs_ior (r := (v2 ||| ((1 : Int32) <<< (v1 &&& 31)))) ri_269_145 rfl rfl ?_
        obtain ⟨q11, hp⟩ := hp
        refine rs_virt (As := [.int (v1 + (1 : Int32)), .int (v2 ||| ((1 : Int32) <<< (v1 &&& 31)))]) (r := []) ri_269_146 rfl (by decide) rm_269.2.2.2 rm_269.2.2.1 rfl rfl rfl (by decide) (ro_kf (kd_163 (xl_244 (xl_245 (hl269 (xl_245 hL q7) q8) q9) q10))) (Nat.le_of_ble_eq_true rfl) (by decide) (by omega) (hF269 (xl_244 (xl_245 (hl269 (xl_245 hL q7) q8) q9) q10) q11) ?_
        rintro _ _ ⟨e1, e2⟩
        rw [e1, e2]
        show ro_w X _ 269 _ 149 [(4, .int ((ro_irem (xf_238 M (M.2.1 163 35) v1) (20 : Int32)) / (2 : Int32))), (3, .int ((xf_238 M (M.2.1 163 35) v1) / (20 : Int32))), (0, .ref 163), (1, .int v1), (2, .int v2)] [] (F269 (xm_244 (xm_245 (F269 (xm_245 M ((xf_238 M (M.2.1 163 35) v1) / (20 : Int32)) ((ro_irem (xf_238 M (M.2.1 163 35) v1) (20 : Int32)) / (2 : Int32))) (v1 + (1 : Int32)) v2) ((ro_irem (xf_238 M (M.2.1 163 35) v1) (20 : Int32)) / (2 : Int32)) ((xf_238 M (M.2.1 163 35) v1) / (20 : Int32))) ((xf_238 M (M.2.1 163 35) v1) / (20 : Int32))) (v1 + (1 : Int32)) (v2 ||| ((1 : Int32) <<< (v1 &&& 31)))) (0, 0)
        refine rs_aload_n ri_269_149 rfl rfl ?_
        refine rs_gf (v := .ref 181) ri_269_150 rfl (by decide) (ro_kf (kd_163 (hl269 (xl_244 (xl_245 (hl269 (xl_245 hL q7) q8) q9) q10) q11))) rfl (rf_163_27 (hl269 (xl_244 (xl_245 (hl269 (xl_245 hL q7) q8) q9) q10) q11)) ?_
        refine rs_iload_n ri_269_153 rfl rfl ?_
        refine rs_dup2 ri_269_154 rfl rfl rfl ?_
        obtain ⟨q12, hp⟩ := hp
        refine rs_iald (v := ((F269 (xm_244 (xm_245 (F269 (xm_245 M ((xf_238 M (M.2.1 163 35) v1) / (20 : Int32)) ((ro_irem (xf_238 M (M.2.1 163 35) v1) (20 : Int32)) / (2 : Int32))) (v1 + (1 : Int32)) v2) ((ro_irem (xf_238 M (M.2.1 163 35) v1) (20 : Int32)) / (2 : Int32)) ((xf_238 M (M.2.1 163 35) v1) / (20 : Int32))) ((xf_238 M (M.2.1 163 35) v1) / (20 : Int32))) (v1 + (1 : Int32)) (v2 ||| ((1 : Int32) <<< (v1 &&& 31)))).2.1 181 (((xf_238 M (M.2.1 163 35) v1) / (20 : Int32)).toNatClampNeg))) ri_269_155 rfl (by decide) (kd_181 (hl269 (xl_244 (xl_245 (hl269 (xl_245 hL q7) q8) q9) q10) q11)) q12 rfl ?_
        refine rs_iconst (v := (1 : Int32)) ri_269_156 rfl (by decide) ?_
        refine rs_iadd (r := (((F269 (xm_244 (xm_245 (F269 (xm_245 M ((xf_238 M (M.2.1 163 35) v1) / (20 : Int32)) ((ro_irem (xf_238 M (M.2.1 163 35) v1) (20 : Int32)) / (2 : Int32))) (v1 + (1 : Int32)) v2) ((ro_irem (xf_238 M (M.2.1 163 35) v1) (20 : Int32)) / (2 : Int32)) ((xf_238 M (M.2.1 163 35) v1) / (20 : Int32))) ((xf_238 M (M.2.1 163 35) v1) / (20 : Int32))) (v1 + (1 : Int32)) (v2 ||| ((1 : Int32) <<< (v1 &&& 31)))).2.1 181 (((xf_238 M (M.2.1 163 35) v1) / (20 : Int32)).toNatClampNeg)) + (1 : Int32))) ri_269_157 rfl rfl ?_
        obtain ⟨q13, hp⟩ := hp
        refine rs_iast (j := ((xf_238 M (M.2.1 163 35) v1) / (20 : Int32)).toNatClampNeg) ri_269_158 rfl (by decide) (kd_181 (hl269 (xl_244 (xl_245 (hl269 (xl_245 hL q7) q8) q9) q10) q11)) q13 rfl ?_
        refine rs_aload_n ri_269_159 rfl rfl ?_
        refine rs_gf (v := .ref 182) ri_269_160 rfl (by decide) (ro_kf (kd_163 (hl269 (xl_244 (xl_245 (hl269 (xl_245 hL q7) q8) q9) q10) q11))) rfl (rf_163_28 (hl269 (xl_244 (xl_245 (hl269 (xl_245 hL q7) q8) q9) q10) q11)) ?_
        refine rs_iload_n ri_269_163 rfl rfl ?_
        refine rs_dup2 ri_269_164 rfl rfl rfl ?_
        obtain ⟨q14, hp⟩ := hp
        refine rs_iald (v := ((F269 (xm_244 (xm_245 (F269 (xm_245 M ((xf_238 M (M.2.1 163 35) v1) / (20 : Int32)) ((ro_irem (xf_238 M (M.2.1 163 35) v1) (20 : Int32)) / (2 : Int32))) (v1 + (1 : Int32)) v2) ((ro_irem (xf_238 M (M.2.1 163 35) v1) (20 : Int32)) / (2 : Int32)) ((xf_238 M (M.2.1 163 35) v1) / (20 : Int32))) ((xf_238 M (M.2.1 163 35) v1) / (20 : Int32))) (v1 + (1 : Int32)) (v2 ||| ((1 : Int32) <<< (v1 &&& 31)))).2.1 182 (((xf_238 M (M.2.1 163 35) v1) / (20 : Int32)).toNatClampNeg))) ri_269_165 rfl (by decide) (kd_182 (hl269 (xl_244 (xl_245 (hl269 (xl_245 hL q7) q8) q9) q10) q11)) q14 rfl ?_
        refine rs_iconst (v := (1 : Int32)) ri_269_166 rfl (by decide) ?_
        refine rs_isub (r := (((F269 (xm_244 (xm_245 (F269 (xm_245 M ((xf_238 M (M.2.1 163 35) v1) / (20 : Int32)) ((ro_irem (xf_238 M (M.2.1 163 35) v1) (20 : Int32)) / (2 : Int32))) (v1 + (1 : Int32)) v2) ((ro_irem (xf_238 M (M.2.1 163 35) v1) (20 : Int32)) / (2 : Int32)) ((xf_238 M (M.2.1 163 35) v1) / (20 : Int32))) ((xf_238 M (M.2.1 163 35) v1) / (20 : Int32))) (v1 + (1 : Int32)) (v2 ||| ((1 : Int32) <<< (v1 &&& 31)))).2.1 182 (((xf_238 M (M.2.1 163 35) v1) / (20 : Int32)).toNatClampNeg)) - (1 : Int32))) ri_269_167 rfl rfl ?_
        obtain ⟨q15, hp⟩ := hp
        refine rs_iast (j := ((xf_238 M (M.2.1 163 35) v1) / (20 : Int32)).toNatClampNeg) ri_269_168 rfl (by decide) (kd_182 (hl269 (xl_244 (xl_245 (hl269 (xl_245 hL q7) q8) q9) q10) q11)) q15 rfl ?_
        refine rs_ret ri_269_169 rm_269.2.1 (by decide) ?_
        exact ⟨by rfl, by unfold xmb_269; first | (simp only [if_neg h1, if_neg h5, if_pos h7]; done) | rfl⟩
      · have hp := hp.2 h7
        refine rs_ret ri_269_109 rm_269.2.1 (by decide) ?_
        exact ⟨by rfl, by unfold xmb_269; first | (simp only [if_neg h1, if_neg h5, if_neg h7]; done) | rfl⟩
    · have hp := hp.1 h5
      refine rs_aload_n ri_269_65 rfl rfl ?_
      refine rs_iload_n ri_269_66 rfl rfl ?_
      refine rs_iload ri_269_67 rfl rfl ?_
      obtain ⟨q16, hp⟩ := hp
      refine rs_virt (As := [.int ((xf_238 M (M.2.1 163 35) v1) / (20 : Int32)), .int ((ro_irem (xf_238 M (M.2.1 163 35) v1) (20 : Int32)) / (2 : Int32))]) (r := []) ri_269_69 rfl (by decide) rm_240.2.2.2 rm_240.2.2.1 rfl rfl rfl (by decide) (ro_kf (kd_163 hL)) (Nat.le_of_ble_eq_true rfl) (by decide) (by omega) (xs_240 (X := X) hL q16) ?_
      rintro _ _ ⟨e1, e2⟩
      rw [e1, e2]
      show ro_w X _ 269 _ 72 [(4, .int ((ro_irem (xf_238 M (M.2.1 163 35) v1) (20 : Int32)) / (2 : Int32))), (3, .int ((xf_238 M (M.2.1 163 35) v1) / (20 : Int32))), (0, .ref 163), (1, .int v1), (2, .int v2)] [.int (ro_b (xf_240 M ((xf_238 M (M.2.1 163 35) v1) / (20 : Int32)) ((ro_irem (xf_238 M (M.2.1 163 35) v1) (20 : Int32)) / (2 : Int32))))] M (0, 0)
      refine rs_ifne_c (t := 76) ri_269_72 rfl rfl (fun h18 => ?_) (fun h18 => ?_)
      · have hp := hp.1 h18
        refine rs_aload_n ri_269_76 rfl rfl ?_
        refine rs_iload_n ri_269_77 rfl rfl ?_
        refine rs_iload ri_269_78 rfl rfl ?_
        obtain ⟨q18, hp⟩ := hp
        refine rs_virt (As := [.int ((xf_238 M (M.2.1 163 35) v1) / (20 : Int32)), .int ((ro_irem (xf_238 M (M.2.1 163 35) v1) (20 : Int32)) / (2 : Int32))]) (r := []) ri_269_80 rfl (by decide) rm_242.2.2.2 rm_242.2.2.1 rfl rfl rfl (by decide) (ro_kf (kd_163 hL)) (Nat.le_of_ble_eq_true rfl) (by decide) (by omega) (xs_242 (X := X) hL q18) ?_
        rintro _ _ ⟨e1, e2⟩
        rw [e1, e2]
        show ro_w X _ 269 _ 83 [(4, .int ((ro_irem (xf_238 M (M.2.1 163 35) v1) (20 : Int32)) / (2 : Int32))), (3, .int ((xf_238 M (M.2.1 163 35) v1) / (20 : Int32))), (0, .ref 163), (1, .int v1), (2, .int v2)] [] (xm_242 M ((xf_238 M (M.2.1 163 35) v1) / (20 : Int32)) ((ro_irem (xf_238 M (M.2.1 163 35) v1) (20 : Int32)) / (2 : Int32))) (0, 0)
        refine rs_aload_n ri_269_83 rfl rfl ?_
        refine rs_iload_n ri_269_84 rfl rfl ?_
        refine rs_iconst (v := (1 : Int32)) ri_269_85 rfl (by decide) ?_
        refine rs_iadd (r := (v1 + (1 : Int32))) ri_269_86 rfl rfl ?_
        refine rs_iload_n ri_269_87 rfl rfl ?_
        obtain ⟨q19, hp⟩ := hp
        refine rs_virt (As := [.int (v1 + (1 : Int32)), .int v2]) (r := []) ri_269_88 rfl (by decide) rm_269.2.2.2 rm_269.2.2.1 rfl rfl rfl (by decide) (ro_kf (kd_163 (xl_242 hL q18))) (Nat.le_of_ble_eq_true rfl) (by decide) (by omega) (hF269 (xl_242 hL q18) q19) ?_
        rintro _ _ ⟨e1, e2⟩
        rw [e1, e2]
        show ro_w X _ 269 _ 91 [(4, .int ((ro_irem (xf_238 M (M.2.1 163 35) v1) (20 : Int32)) / (2 : Int32))), (3, .int ((xf_238 M (M.2.1 163 35) v1) / (20 : Int32))), (0, .ref 163), (1, .int v1), (2, .int v2)] [] (F269 (xm_242 M ((xf_238 M (M.2.1 163 35) v1) / (20 : Int32)) ((ro_irem (xf_238 M (M.2.1 163 35) v1) (20 : Int32)) / (2 : Int32))) (v1 + (1 : Int32)) v2) (0, 0)
        refine rs_aload_n ri_269_91 rfl rfl ?_
        refine rs_iload ri_269_92 rfl rfl ?_
        refine rs_iload_n ri_269_94 rfl rfl ?_
        obtain ⟨q20, hp⟩ := hp
        refine rs_virt (As := [.int ((ro_irem (xf_238 M (M.2.1 163 35) v1) (20 : Int32)) / (2 : Int32)), .int ((xf_238 M (M.2.1 163 35) v1) / (20 : Int32))]) (r := []) ri_269_95 rfl (by decide) rm_242.2.2.2 rm_242.2.2.1 rfl rfl rfl (by decide) (ro_kf (kd_163 (hl269 (xl_242 hL q18) q19))) (Nat.le_of_ble_eq_true rfl) (by decide) (by omega) (xs_242 (X := X) (hl269 (xl_242 hL q18) q19) q20) ?_
        rintro _ _ ⟨e1, e2⟩
        rw [e1, e2]
        show ro_w X _ 269 _ 98 [(4, .int ((ro_irem (xf_238 M (M.2.1 163 35) v1) (20 : Int32)) / (2 : Int32))), (3, .int ((xf_238 M (M.2.1 163 35) v1) / (20 : Int32))), (0, .ref 163), (1, .int v1), (2, .int v2)] [] (xm_242 (F269 (xm_242 M ((xf_238 M (M.2.1 163 35) v1) / (20 : Int32)) ((ro_irem (xf_238 M (M.2.1 163 35) v1) (20 : Int32)) / (2 : Int32))) (v1 + (1 : Int32)) v2) ((ro_irem (xf_238 M (M.2.1 163 35) v1) (20 : Int32)) / (2 : Int32)) ((xf_238 M (M.2.1 163 35) v1) / (20 : Int32))) (0, 0)
        refine rs_ret ri_269_98 rm_269.2.1 (by decide) ?_
        exact ⟨by rfl, by unfold xmb_269; first | (simp only [if_neg h1, if_pos h5, if_pos h18]; done) | rfl⟩
      · have hp := hp.2 h18
        refine rs_ret ri_269_75 rm_269.2.1 (by decide) ?_
        exact ⟨by rfl, by unfold xmb_269; first | (simp only [if_neg h1, if_pos h5, if_neg h18]; done) | rfl⟩
  · have hp := hp.1 h1
    refine rs_aload_n ri_269_8 rfl rfl ?_
    obtain ⟨q21, hp⟩ := hp
    refine rs_virt (As := []) (r := []) ri_269_9 rfl (by decide) rm_270.2.2.2 rm_270.2.2.1 rfl rfl rfl (by decide) (ro_kf (kd_163 hL)) (Nat.le_of_ble_eq_true rfl) (by decide) (by omega) (xs_270 (X := X) hL q21) ?_
    rintro _ _ ⟨e1, e2⟩
    rw [e1, e2]
    show ro_w X _ 269 _ 12 [(0, .ref 163), (1, .int v1), (2, .int v2)] [.int (ro_b (xf_270 M))] M (0, 0)
    refine rs_ifeq_c (t := 20) ri_269_12 rfl rfl (fun h23 => ?_) (fun h23 => ?_)
    · have hp := hp.2 h23
      refine rs_ret ri_269_20 rm_269.2.1 (by decide) ?_
      exact ⟨by rfl, by unfold xmb_269; first | (simp only [if_pos h1, if_neg h23]; done) | rfl⟩
    · have hp := hp.1 h23
      refine rs_aload_n ri_269_15 rfl rfl ?_
      refine rs_iload_n ri_269_16 rfl rfl ?_
      obtain ⟨q23, hp⟩ := hp
      refine rs_virt (As := [.int v2]) (r := []) ri_269_17 rfl (by decide) rm_271.2.2.2 rm_271.2.2.1 rfl rfl rfl (by decide) (ro_kf (kd_163 hL)) (Nat.le_of_ble_eq_true rfl) (by decide) (by omega) (xs_271 (X := X) hL q23) ?_
      rintro _ _ ⟨e1, e2⟩
      rw [e1, e2]
      show ro_w X _ 269 _ 20 [(0, .ref 163), (1, .int v1), (2, .int v2)] [] (xm_271 M v2) (0, 0)
      refine rs_ret ri_269_20 rm_269.2.1 (by decide) ?_
      exact ⟨by rfl, by unfold xmb_269; first | (simp only [if_pos h1, if_pos h23]; done) | rfl⟩
theorem xlb_269 {X : ro_Sx} {k : Nat} {F269 : ro_Mm → Int32 → Int32 → ro_Mm} {P269 : ro_Mm → Int32 → Int32 → Prop} (hF269 : ∀ {M : ro_Mm} {v1 : Int32} {v2 : Int32}, ro_lay M → P269 M v1 v2 → ro_cwp X k 269 [.ref 163, .int v1, .int v2] M (fun v M2 => v = none ∧ M2 = (F269 M v1 v2))) (hl269 : ∀ {M : ro_Mm} {v1 : Int32} {v2 : Int32}, ro_lay M → P269 M v1 v2 → ro_lay (F269 M v1 v2)) {M : ro_Mm} {v1 : Int32} {v2 : Int32} (hL : ro_lay M) (hp : xpb_269 F269 P269 M v1 v2) : ro_lay (xmb_269 F269 M v1 v2) := by
  unfold xpb_269 at hp
  unfold xmb_269
  by_cases hz : v1 = (M.2.1 163 37)
  · have hp := hp.1 hz
    rw [if_pos hz]
    obtain ⟨q21, hp⟩ := hp
    by_cases hz : (xf_270 M)
    · have hp := hp.1 hz
      rw [if_pos hz]
      obtain ⟨q23, hp⟩ := hp
      first | exact (xl_271 hL q23) | (have hl := (xl_271 hL q23); exact hl)
    · have hp := hp.2 hz
      rw [if_neg hz]
      first | exact hL | (have hl := hL; exact hl)
  · have hp := hp.2 hz
    rw [if_neg hz]
    obtain ⟨q1, hp⟩ := hp
    obtain ⟨q2, hp⟩ := hp
    obtain ⟨q3, hp⟩ := hp
    by_cases hz : (ro_irem (xf_238 M (M.2.1 163 35) v1) (2 : Int32)) = (1 : Int32)
    · have hp := hp.1 hz
      rw [if_pos hz]
      obtain ⟨q16, hp⟩ := hp
      by_cases hz : (xf_240 M ((xf_238 M (M.2.1 163 35) v1) / (20 : Int32)) ((ro_irem (xf_238 M (M.2.1 163 35) v1) (20 : Int32)) / (2 : Int32)))
      · have hp := hp.1 hz
        rw [if_pos hz]
        obtain ⟨q18, hp⟩ := hp
        obtain ⟨q19, hp⟩ := hp
        obtain ⟨q20, hp⟩ := hp
        first | exact (xl_242 (hl269 (xl_242 hL q18) q19) q20) | (have hl := (xl_242 (hl269 (xl_242 hL q18) q19) q20); exact hl)
      · have hp := hp.2 hz
        rw [if_neg hz]
        first | exact hL | (have hl := hL; exact hl)
    · have hp := hp.2 hz
      rw [if_neg hz]
      obtain ⟨q5, hp⟩ := hp
      by_cases hz : (xf_241 M ((xf_238 M (M.2.1 163 35) v1) / (20 : Int32)) ((ro_irem (xf_238 M (M.2.1 163 35) v1) (20 : Int32)) / (2 : Int32)))
      · have hp := hp.1 hz
        rw [if_pos hz]
        obtain ⟨q7, hp⟩ := hp
        obtain ⟨q8, hp⟩ := hp
        obtain ⟨q9, hp⟩ := hp
        obtain ⟨q10, hp⟩ := hp
        obtain ⟨q11, hp⟩ := hp
        obtain ⟨q12, hp⟩ := hp
        obtain ⟨q13, hp⟩ := hp
        obtain ⟨q14, hp⟩ := hp
        obtain ⟨q15, hp⟩ := hp
        first | exact (hl269 (xl_244 (xl_245 (hl269 (xl_245 hL q7) q8) q9) q10) q11) | (have hl := (hl269 (xl_244 (xl_245 (hl269 (xl_245 hL q7) q8) q9) q10) q11); exact hl)
      · have hp := hp.2 hz
        rw [if_neg hz]
        first | exact hL | (have hl := hL; exact hl)
noncomputable def xr_bhd : Nat → (ro_Mm → Int32 → Int32 → ro_Mm)
  | 0 => fun M v1 v2 => M
  | n + 1 => fun M v1 v2 => (xmb_269 (xr_bhd n) M v1 v2)
def xpr_bhd : Nat → (ro_Mm → Int32 → Int32 → Prop)
  | 0 => fun _ _ _ => False
  | n + 1 => fun M v1 v2 => xpb_269 (xr_bhd n) (xpr_bhd n) M v1 v2
theorem xsr_bhd {X : ro_Sx} : ∀ n : Nat, (∀ {M : ro_Mm} {v1 : Int32} {v2 : Int32}, ro_lay M → xpr_bhd n M v1 v2 → ro_cwp X (4 * n) 269 [.ref 163, .int v1, .int v2] M (fun v M2 => v = none ∧ M2 = (xr_bhd n M v1 v2))) ∧ (∀ {M : ro_Mm} {v1 : Int32} {v2 : Int32}, ro_lay M → xpr_bhd n M v1 v2 → ro_lay (xr_bhd n M v1 v2)) := by
  intro n
  induction n with
  | zero => exact ⟨fun _ hp => False.elim hp, fun _ hp => False.elim hp⟩
  | succ n ih =>
    obtain ⟨f269, l269⟩ := ih
    refine ⟨?_, ?_⟩
    · intro M v1 v2 hL hp
      exact ro_cwp_up (by omega) (fun _ _ h => h) (xsb_269 f269 l269 hL hp)
    · intro M v1 v2 hL hp
      exact xlb_269 (X := X) f269 l269 hL hp
noncomputable def xm_269 (M : ro_Mm) (v1 : Int32) (v2 : Int32) : ro_Mm := (xr_bhd rc_N M v1 v2)
def xp_269 (M : ro_Mm) (v1 : Int32) (v2 : Int32) : Prop := xpr_bhd rc_N M v1 v2
theorem xs_269 {X : ro_Sx} {M : ro_Mm} {v1 : Int32} {v2 : Int32} (hL : ro_lay M) (hp : xp_269 M v1 v2) : ro_cwp X 400 269 [.ref 163, .int v1, .int v2] M (fun v M2 => v = none ∧ M2 = xm_269 M v1 v2) :=
  ro_cwp_up (by rw [rc_N_eq]; exact Nat.le_refl _) (fun _ _ h => h) ((xsr_bhd (X := X) rc_N).1 hL hp)
theorem xl_269 {M : ro_Mm} {v1 : Int32} {v2 : Int32} (hL : ro_lay M) (hp : xp_269 M v1 v2) : ro_lay (xm_269 M v1 v2) := (xsr_bhd (X := (0, fun _ => 0)) rc_N).2 hL hp
/-- RefusedOnceModel.goPay(IIIIJ)V -/
noncomputable def xmb_253 (F253 : ro_Mm → Int32 → Int32 → Int32 → Int32 → Int64 → ro_Mm) (M : ro_Mm) (v1 : Int32) (v2 : Int32) (v3 : Int32) (v4 : Int32) (v5 : Int64) : ro_Mm := (if (lg_cmp v5 (0 : Int64)) = (0 : Int32) then M else (if v3 = (0 : Int32) then (ro_sJ M 183 (v4.toNatClampNeg) ((M.2.2.1 183 (v4.toNatClampNeg)) + v5)) else (if (xf_241 M v1 v2) then (xm_245 (F253 (xm_245 (ro_sI (ro_sI (F253 (xm_244 (xm_229 M v1 v2) v1) v1 v2 (v3 - (1 : Int32)) (v4 + (1 : Int32)) (v5 * ((xf_229 M v1 v2).toInt64))) 181 (v1.toNatClampNeg) (((F253 (xm_244 (xm_229 M v1 v2) v1) v1 v2 (v3 - (1 : Int32)) (v4 + (1 : Int32)) (v5 * ((xf_229 M v1 v2).toInt64))).2.1 181 (v1.toNatClampNeg)) + (1 : Int32))) 182 (v1.toNatClampNeg) (((F253 (xm_244 (xm_229 M v1 v2) v1) v1 v2 (v3 - (1 : Int32)) (v4 + (1 : Int32)) (v5 * ((xf_229 M v1 v2).toInt64))).2.1 182 (v1.toNatClampNeg)) - (1 : Int32))) v1 v2) v1 v2 (v3 - (1 : Int32)) v4 (v5 * (((12 : Int32) - (xf_229 M v1 v2)).toInt64))) v2 v1) else (F253 M v1 v2 (v3 - (1 : Int32)) v4 (v5 * (12 : Int64))))))
def xpb_253 (F253 : ro_Mm → Int32 → Int32 → Int32 → Int32 → Int64 → ro_Mm) (P253 : ro_Mm → Int32 → Int32 → Int32 → Int32 → Int64 → Prop) (M : ro_Mm) (v1 : Int32) (v2 : Int32) (v3 : Int32) (v4 : Int32) (v5 : Int64) : Prop := (((lg_cmp v5 (0 : Int64)) = (0 : Int32) → True) ∧ (¬ ((lg_cmp v5 (0 : Int64)) = (0 : Int32)) → ((v3 = (0 : Int32) → (vp_in v4 9 ∧ (vp_in v4 9 ∧ True))) ∧ (¬ (v3 = (0 : Int32)) → (xp_241 M v1 v2 ∧ (((xf_241 M v1 v2) → (xp_229 M v1 v2 ∧ (xp_244 (xm_229 M v1 v2) v1 ∧ (P253 (xm_244 (xm_229 M v1 v2) v1) v1 v2 (v3 - (1 : Int32)) (v4 + (1 : Int32)) (v5 * ((xf_229 M v1 v2).toInt64)) ∧ (vp_in v1 6 ∧ (vp_in v1 6 ∧ (vp_in v1 6 ∧ (vp_in v1 6 ∧ (xp_245 (ro_sI (ro_sI (F253 (xm_244 (xm_229 M v1 v2) v1) v1 v2 (v3 - (1 : Int32)) (v4 + (1 : Int32)) (v5 * ((xf_229 M v1 v2).toInt64))) 181 (v1.toNatClampNeg) (((F253 (xm_244 (xm_229 M v1 v2) v1) v1 v2 (v3 - (1 : Int32)) (v4 + (1 : Int32)) (v5 * ((xf_229 M v1 v2).toInt64))).2.1 181 (v1.toNatClampNeg)) + (1 : Int32))) 182 (v1.toNatClampNeg) (((F253 (xm_244 (xm_229 M v1 v2) v1) v1 v2 (v3 - (1 : Int32)) (v4 + (1 : Int32)) (v5 * ((xf_229 M v1 v2).toInt64))).2.1 182 (v1.toNatClampNeg)) - (1 : Int32))) v1 v2 ∧ (P253 (xm_245 (ro_sI (ro_sI (F253 (xm_244 (xm_229 M v1 v2) v1) v1 v2 (v3 - (1 : Int32)) (v4 + (1 : Int32)) (v5 * ((xf_229 M v1 v2).toInt64))) 181 (v1.toNatClampNeg) (((F253 (xm_244 (xm_229 M v1 v2) v1) v1 v2 (v3 - (1 : Int32)) (v4 + (1 : Int32)) (v5 * ((xf_229 M v1 v2).toInt64))).2.1 181 (v1.toNatClampNeg)) + (1 : Int32))) 182 (v1.toNatClampNeg) (((F253 (xm_244 (xm_229 M v1 v2) v1) v1 v2 (v3 - (1 : Int32)) (v4 + (1 : Int32)) (v5 * ((xf_229 M v1 v2).toInt64))).2.1 182 (v1.toNatClampNeg)) - (1 : Int32))) v1 v2) v1 v2 (v3 - (1 : Int32)) v4 (v5 * (((12 : Int32) - (xf_229 M v1 v2)).toInt64)) ∧ (xp_245 (F253 (xm_245 (ro_sI (ro_sI (F253 (xm_244 (xm_229 M v1 v2) v1) v1 v2 (v3 - (1 : Int32)) (v4 + (1 : Int32)) (v5 * ((xf_229 M v1 v2).toInt64))) 181 (v1.toNatClampNeg) (((F253 (xm_244 (xm_229 M v1 v2) v1) v1 v2 (v3 - (1 : Int32)) (v4 + (1 : Int32)) (v5 * ((xf_229 M v1 v2).toInt64))).2.1 181 (v1.toNatClampNeg)) + (1 : Int32))) 182 (v1.toNatClampNeg) (((F253 (xm_244 (xm_229 M v1 v2) v1) v1 v2 (v3 - (1 : Int32)) (v4 + (1 : Int32)) (v5 * ((xf_229 M v1 v2).toInt64))).2.1 182 (v1.toNatClampNeg)) - (1 : Int32))) v1 v2) v1 v2 (v3 - (1 : Int32)) v4 (v5 * (((12 : Int32) - (xf_229 M v1 v2)).toInt64))) v2 v1 ∧ True))))))))))) ∧ (¬ ((xf_241 M v1 v2)) → (P253 M v1 v2 (v3 - (1 : Int32)) v4 (v5 * (12 : Int64)) ∧ True))))))))
theorem xsb_253 {X : ro_Sx} {k : Nat} {F253 : ro_Mm → Int32 → Int32 → Int32 → Int32 → Int64 → ro_Mm} {P253 : ro_Mm → Int32 → Int32 → Int32 → Int32 → Int64 → Prop} (hF253 : ∀ {M : ro_Mm} {v1 : Int32} {v2 : Int32} {v3 : Int32} {v4 : Int32} {v5 : Int64}, ro_lay M → P253 M v1 v2 v3 v4 v5 → ro_cwp X k 253 [.ref 163, .int v1, .int v2, .int v3, .int v4, .long v5] M (fun v M2 => v = none ∧ M2 = (F253 M v1 v2 v3 v4 v5))) (hl253 : ∀ {M : ro_Mm} {v1 : Int32} {v2 : Int32} {v3 : Int32} {v4 : Int32} {v5 : Int64}, ro_lay M → P253 M v1 v2 v3 v4 v5 → ro_lay (F253 M v1 v2 v3 v4 v5)) {M : ro_Mm} {v1 : Int32} {v2 : Int32} {v3 : Int32} {v4 : Int32} {v5 : Int64} (hL : ro_lay M) (hp : xpb_253 F253 P253 M v1 v2 v3 v4 v5) : ro_cwp X (k + 5) 253 [.ref 163, .int v1, .int v2, .int v3, .int v4, .long v5] M (fun v M2 => v = none ∧ M2 = xmb_253 F253 M v1 v2 v3 v4 v5) := by
  refine rs_begin (lv0 := [(0, .ref 163), (1, .int v1), (2, .int v2), (3, .int v3), (4, .int v4), (5, .long v5)]) (by decide) rfl (by rw [rm_253.1]; exact Nat.le_of_ble_eq_true rfl) rfl ?_
  unfold xpb_253 at hp
  refine rs_lload ri_253_0 rfl rfl ?_
  refine rs_lconst (v := (0 : Int64)) ri_253_2 rfl rfl ?_
  refine rs_lcmp (r := (lg_cmp v5 (0 : Int64))) ri_253_3 rfl rfl ?_
  refine rs_if_ne (t := 8) ri_253_4 rfl rfl (fun h1 => ?_) (fun h1 => ?_)
  · have hp := hp.2 h1
    refine rs_iload_n ri_253_8 rfl rfl ?_
    refine rs_if_ne (t := 25) ri_253_9 rfl rfl (fun h2 => ?_) (fun h2 => ?_)
    · have hp := hp.2 h2
      refine rs_aload_n ri_253_25 rfl rfl ?_
      refine rs_iload_n ri_253_26 rfl rfl ?_
      refine rs_iload_n ri_253_27 rfl rfl ?_
      obtain ⟨q2, hp⟩ := hp
      refine rs_virt (As := [.int v1, .int v2]) (r := []) ri_253_28 rfl (by decide) rm_241.2.2.2 rm_241.2.2.1 rfl rfl rfl (by decide) (ro_kf (kd_163 hL)) (Nat.le_of_ble_eq_true rfl) (by decide) (by omega) (xs_241 (X := X) hL q2) ?_
      rintro _ _ ⟨e1, e2⟩
      rw [e1, e2]
      show ro_w X _ 253 _ 31 [(0, .ref 163), (1, .int v1), (2, .int v2), (3, .int v3), (4, .int v4), (5, .long v5)] [.int (ro_b (xf_241 M v1 v2))] M (0, 0)
      refine rs_ifne_c (t := 52) ri_253_31 rfl rfl (fun h4 => ?_) (fun h4 => ?_)
      · have hp := hp.1 h4
        refine rs_aload_n ri_253_52 rfl rfl ?_
        refine rs_iload_n ri_253_53 rfl rfl ?_
        refine rs_iload_n ri_253_54 rfl rfl ?_
        obtain ⟨q4, hp⟩ := hp
        refine rs_virt (As := [.int v1, .int v2]) (r := []) ri_253_55 rfl (by decide) rm_229.2.2.2 rm_229.2.2.1 rfl rfl rfl (by decide) (ro_kf (kd_163 hL)) (Nat.le_of_ble_eq_true rfl) (by decide) (by omega) (xs_229 (X := X) hL q4) ?_
        rintro _ _ ⟨e1, e2⟩
        rw [e1, e2]
        show ro_w X _ 253 _ 58 [(0, .ref 163), (1, .int v1), (2, .int v2), (3, .int v3), (4, .int v4), (5, .long v5)] [.int (xf_229 M v1 v2)] (xm_229 M v1 v2) (0, 0)
        refine rs_istore (lv2 := [(7, .int (xf_229 M v1 v2)), (0, .ref 163), (1, .int v1), (2, .int v2), (3, .int v3), (4, .int v4), (5, .long v5)]) ri_253_58 rfl rm_253.1 (by decide) rfl ?_
        refine rs_aload_n ri_253_60 rfl rfl ?_
        refine rs_iload_n ri_253_61 rfl rfl ?_
        obtain ⟨q5, hp⟩ := hp
        refine rs_virt (As := [.int v1]) (r := []) ri_253_62 rfl (by decide) rm_244.2.2.2 rm_244.2.2.1 rfl rfl rfl (by decide) (ro_kf (kd_163 (xl_229 hL q4))) (Nat.le_of_ble_eq_true rfl) (by decide) (by omega) (xs_244 (X := X) (xl_229 hL q4) q5) ?_
        rintro _ _ ⟨e1, e2⟩
        rw [e1, e2]
        show ro_w X _ 253 _ 65 [(7, .int (xf_229 M v1 v2)), (0, .ref 163), (1, .int v1), (2, .int v2), (3, .int v3), (4, .int v4), (5, .long v5)] [] (xm_244 (xm_229 M v1 v2) v1) (0, 0)
        refine rs_aload_n ri_253_65 rfl rfl ?_
        refine rs_iload_n ri_253_66 rfl rfl ?_
        refine rs_iload_n ri_253_67 rfl rfl ?_
        refine rs_iload_n ri_253_68 rfl rfl ?_
        refine rs_iconst (v := (1 : Int32)) ri_253_69 rfl (by decide) ?_
        refine rs_isub (r := (v3 - (1 : Int32))) ri_253_70 rfl rfl ?_
        refine rs_iload ri_253_71 rfl rfl ?_
        refine rs_iconst (v := (1 : Int32)) ri_253_73 rfl (by decide) ?_
        refine rs_iadd (r := (v4 + (1 : Int32))) ri_253_74 rfl rfl ?_
        refine rs_lload ri_253_75 rfl rfl ?_
        refine rs_iload ri_253_77 rfl rfl ?_
        refine rs_i2l (r := ((xf_229 M v1 v2).toInt64)) ri_253_79 rfl rfl ?_
        refine rs_lmul (r := (v5 * ((xf_229 M v1 v2).toInt64))) ri_253_80 rfl rfl ?_
        obtain ⟨q6, hp⟩ := hp
        refine rs_virt (As := [.int v1, .int v2, .int (v3 - (1 : Int32)), .int (v4 + (1 : Int32)), .long (v5 * ((xf_229 M v1 v2).toInt64))]) (r := []) ri_253_81 rfl (by decide) rm_253.2.2.2 rm_253.2.2.1 rfl rfl rfl (by decide) (ro_kf (kd_163 (xl_244 (xl_229 hL q4) q5))) (Nat.le_of_ble_eq_true rfl) (by decide) (by omega) (hF253 (xl_244 (xl_229 hL q4) q5) q6) ?_
        rintro _ _ ⟨e1, e2⟩
        rw [e1, e2]
        show ro_w X _ 253 _ 84 [(7, .int (xf_229 M v1 v2)), (0, .ref 163), (1, .int v1), (2, .int v2), (3, .int v3), (4, .int v4), (5, .long v5)] [] (F253 (xm_244 (xm_229 M v1 v2) v1) v1 v2 (v3 - (1 : Int32)) (v4 + (1 : Int32)) (v5 * ((xf_229 M v1 v2).toInt64))) (0, 0)
        refine rs_aload_n ri_253_84 rfl rfl ?_
        refine rs_gf (v := .ref 181) ri_253_85 rfl (by decide) (ro_kf (kd_163 (hl253 (xl_244 (xl_229 hL q4) q5) q6))) rfl (rf_163_27 (hl253 (xl_244 (xl_229 hL q4) q5) q6)) ?_
        refine rs_iload_n ri_253_88 rfl rfl ?_
        refine rs_dup2 ri_253_89 rfl rfl rfl ?_
        obtain ⟨q7, hp⟩ := hp
        refine rs_iald (v := ((F253 (xm_244 (xm_229 M v1 v2) v1) v1 v2 (v3 - (1 : Int32)) (v4 + (1 : Int32)) (v5 * ((xf_229 M v1 v2).toInt64))).2.1 181 (v1.toNatClampNeg))) ri_253_90 rfl (by decide) (kd_181 (hl253 (xl_244 (xl_229 hL q4) q5) q6)) q7 rfl ?_
        refine rs_iconst (v := (1 : Int32)) ri_253_91 rfl (by decide) ?_
        refine rs_iadd (r := (((F253 (xm_244 (xm_229 M v1 v2) v1) v1 v2 (v3 - (1 : Int32)) (v4 + (1 : Int32)) (v5 * ((xf_229 M v1 v2).toInt64))).2.1 181 (v1.toNatClampNeg)) + (1 : Int32))) ri_253_92 rfl rfl ?_
        obtain ⟨q8, hp⟩ := hp
        refine rs_iast (j := v1.toNatClampNeg) ri_253_93 rfl (by decide) (kd_181 (hl253 (xl_244 (xl_229 hL q4) q5) q6)) q8 rfl ?_
        refine rs_aload_n ri_253_94 rfl rfl ?_
        refine rs_gf (v := .ref 182) ri_253_95 rfl (by decide) (ro_kf (kd_163 (hl253 (xl_244 (xl_229 hL q4) q5) q6))) rfl (rf_163_28 (hl253 (xl_244 (xl_229 hL q4) q5) q6)) ?_
        refine rs_iload_n ri_253_98 rfl rfl ?_
        refine rs_dup2 ri_253_99 rfl rfl rfl ?_
        obtain ⟨q9, hp⟩ := hp
        refine rs_iald (v := ((F253 (xm_244 (xm_229 M v1 v2) v1) v1 v2 (v3 - (1 : Int32)) (v4 + (1 : Int32)) (v5 * ((xf_229 M v1 v2).toInt64))).2.1 182 (v1.toNatClampNeg))) ri_253_100 rfl (by decide) (kd_182 (hl253 (xl_244 (xl_229 hL q4) q5) q6)) q9 rfl ?_
        refine rs_iconst (v := (1 : Int32)) ri_253_101 rfl (by decide) ?_
        refine rs_isub (r := (((F253 (xm_244 (xm_229 M v1 v2) v1) v1 v2 (v3 - (1 : Int32)) (v4 + (1 : Int32)) (v5 * ((xf_229 M v1 v2).toInt64))).2.1 182 (v1.toNatClampNeg)) - (1 : Int32))) ri_253_102 rfl rfl ?_
        obtain ⟨q10, hp⟩ := hp
        refine rs_iast (j := v1.toNatClampNeg) ri_253_103 rfl (by decide) (kd_182 (hl253 (xl_244 (xl_229 hL q4) q5) q6)) q10 rfl ?_
        refine rs_aload_n ri_253_104 rfl rfl ?_
        refine rs_iload_n ri_253_105 rfl rfl ?_
        refine rs_iload_n ri_253_106 rfl rfl ?_
        obtain ⟨q11, hp⟩ := hp
        refine rs_virt (As := [.int v1, .int v2]) (r := []) ri_253_107 rfl (by decide) rm_245.2.2.2 rm_245.2.2.1 rfl rfl rfl (by decide) (ro_kf (kd_163 (hl253 (xl_244 (xl_229 hL q4) q5) q6))) (Nat.le_of_ble_eq_true rfl) (by decide) (by omega) (xs_245 (X := X) (hl253 (xl_244 (xl_229 hL q4) q5) q6) q11) ?_
        rintro _ _ ⟨e1, e2⟩
        rw [e1, e2]
        show ro_w X _ 253 _ 110 [(7, .int (xf_229 M v1 v2)), (0, .ref 163), (1, .int v1), (2, .int v2), (3, .int v3), (4, .int v4), (5, .long v5)] [] (xm_245 (ro_sI (ro_sI (F253 (xm_244 (xm_229 M v1 v2) v1) v1 v2 (v3 - (1 : Int32)) (v4 + (1 : Int32)) (v5 * ((xf_229 M v1 v2).toInt64))) 181 (v1.toNatClampNeg) (((F253 (xm_244 (xm_229 M v1 v2) v1) v1 v2 (v3 - (1 : Int32)) (v4 + (1 : Int32)) (v5 * ((xf_229 M v1 v2).toInt64))).2.1 181 (v1.toNatClampNeg)) + (1 : Int32))) 182 (v1.toNatClampNeg) (((F253 (xm_244 (xm_229 M v1 v2) v1) v1 v2 (v3 - (1 : Int32)) (v4 + (1 : Int32)) (v5 * ((xf_229 M v1 v2).toInt64))).2.1 182 (v1.toNatClampNeg)) - (1 : Int32))) v1 v2) (0, 0)
        refine rs_aload_n ri_253_110 rfl rfl ?_
        refine rs_iload_n ri_253_111 rfl rfl ?_
        refine rs_iload_n ri_253_112 rfl rfl ?_
        refine rs_iload_n ri_253_113 rfl rfl ?_
        refine rs_iconst (v := (1 : Int32)) ri_253_114 rfl (by decide) ?_
        refine rs_isub (r := (v3 - (1 : Int32))) ri_253_115 rfl rfl ?_
        refine rs_iload ri_253_116 rfl rfl ?_
        refine rs_lload ri_253_118 rfl rfl ?_
        refine rs_bipush (v := (12 : Int32)) ri_253_120 rfl (by decide) ?_
        refine rs_iload ri_253_122 rfl rfl ?_
        refine rs_isub (r := ((12 : Int32) - (xf_229 M v1 v2))) ri_253_124 rfl rfl ?_
        refine rs_i2l (r := (((12 : Int32) - (xf_229 M v1 v2)).toInt64)) ri_253_125 rfl rfl ?_
        refine rs_lmul (r := (v5 * (((12 : Int32) - (xf_229 M v1 v2)).toInt64))) ri_253_126 rfl rfl ?_
        obtain ⟨q12, hp⟩ := hp
        refine rs_virt (As := [.int v1, .int v2, .int (v3 - (1 : Int32)), .int v4, .long (v5 * (((12 : Int32) - (xf_229 M v1 v2)).toInt64))]) (r := []) ri_253_127 rfl (by decide) rm_253.2.2.2 rm_253.2.2.1 rfl rfl rfl (by decide) (ro_kf (kd_163 (xl_245 (hl253 (xl_244 (xl_229 hL q4) q5) q6) q11))) (Nat.le_of_ble_eq_true rfl) (by decide) (by omega) (hF253 (xl_245 (hl253 (xl_244 (xl_229 hL q4) q5) q6) q11) q12) ?_
        rintro _ _ ⟨e1, e2⟩
        rw [e1, e2]
        show ro_w X _ 253 _ 130 [(7, .int (xf_229 M v1 v2)), (0, .ref 163), (1, .int v1), (2, .int v2), (3, .int v3), (4, .int v4), (5, .long v5)] [] (F253 (xm_245 (ro_sI (ro_sI (F253 (xm_244 (xm_229 M v1 v2) v1) v1 v2 (v3 - (1 : Int32)) (v4 + (1 : Int32)) (v5 * ((xf_229 M v1 v2).toInt64))) 181 (v1.toNatClampNeg) (((F253 (xm_244 (xm_229 M v1 v2) v1) v1 v2 (v3 - (1 : Int32)) (v4 + (1 : Int32)) (v5 * ((xf_229 M v1 v2).toInt64))).2.1 181 (v1.toNatClampNeg)) + (1 : Int32))) 182 (v1.toNatClampNeg) (((F253 (xm_244 (xm_229 M v1 v2) v1) v1 v2 (v3 - (1 : Int32)) (v4 + (1 : Int32)) (v5 * ((xf_229 M v1 v2).toInt64))).2.1 182 (v1.toNatClampNeg)) - (1 : Int32))) v1 v2) v1 v2 (v3 - (1 : Int32)) v4 (v5 * (((12 : Int32) - (xf_229 M v1 v2)).toInt64))) (0, 0)
        refine rs_aload_n ri_253_130 rfl rfl ?_
        refine rs_iload_n ri_253_131 rfl rfl ?_
        refine rs_iload_n ri_253_132 rfl rfl ?_
        obtain ⟨q13, hp⟩ := hp
        refine rs_virt (As := [.int v2, .int v1]) (r := []) ri_253_133 rfl (by decide) rm_245.2.2.2 rm_245.2.2.1 rfl rfl rfl (by decide) (ro_kf (kd_163 (hl253 (xl_245 (hl253 (xl_244 (xl_229 hL q4) q5) q6) q11) q12))) (Nat.le_of_ble_eq_true rfl) (by decide) (by omega) (xs_245 (X := X) (hl253 (xl_245 (hl253 (xl_244 (xl_229 hL q4) q5) q6) q11) q12) q13) ?_
        rintro _ _ ⟨e1, e2⟩
        rw [e1, e2]
        show ro_w X _ 253 _ 136 [(7, .int (xf_229 M v1 v2)), (0, .ref 163), (1, .int v1), (2, .int v2), (3, .int v3), (4, .int v4), (5, .long v5)] [] (xm_245 (F253 (xm_245 (ro_sI (ro_sI (F253 (xm_244 (xm_229 M v1 v2) v1) v1 v2 (v3 - (1 : Int32)) (v4 + (1 : Int32)) (v5 * ((xf_229 M v1 v2).toInt64))) 181 (v1.toNatClampNeg) (((F253 (xm_244 (xm_229 M v1 v2) v1) v1 v2 (v3 - (1 : Int32)) (v4 + (1 : Int32)) (v5 * ((xf_229 M v1 v2).toInt64))).2.1 181 (v1.toNatClampNeg)) + (1 : Int32))) 182 (v1.toNatClampNeg) (((F253 (xm_244 (xm_229 M v1 v2) v1) v1 v2 (v3 - (1 : Int32)) (v4 + (1 : Int32)) (v5 * ((xf_229 M v1 v2).toInt64))).2.1 182 (v1.toNatClampNeg)) - (1 : Int32))) v1 v2) v1 v2 (v3 - (1 : Int32)) v4 (v5 * (((12 : Int32) - (xf_229 M v1 v2)).toInt64))) v2 v1) (0, 0)
        refine rs_ret ri_253_136 rm_253.2.1 (by decide) ?_
        exact ⟨by rfl, by unfold xmb_253; first | (simp only [if_neg h1, if_neg h2, if_pos h4]; done) | rfl⟩
      · have hp := hp.2 h4
        refine rs_aload_n ri_253_34 rfl rfl ?_
        refine rs_iload_n ri_253_35 rfl rfl ?_
        refine rs_iload_n ri_253_36 rfl rfl ?_
        refine rs_iload_n ri_253_37 rfl rfl ?_
        refine rs_iconst (v := (1 : Int32)) ri_253_38 rfl (by decide) ?_
        refine rs_isub (r := (v3 - (1 : Int32))) ri_253_39 rfl rfl ?_
        refine rs_iload ri_253_40 rfl rfl ?_
        refine rs_lload ri_253_42 rfl rfl ?_
        refine rs_ldc2 (v := (12 : Int64)) ri_253_44 rfl rfl rfl ?_
        refine rs_lmul (r := (v5 * (12 : Int64))) ri_253_47 rfl rfl ?_
        obtain ⟨q14, hp⟩ := hp
        refine rs_virt (As := [.int v1, .int v2, .int (v3 - (1 : Int32)), .int v4, .long (v5 * (12 : Int64))]) (r := []) ri_253_48 rfl (by decide) rm_253.2.2.2 rm_253.2.2.1 rfl rfl rfl (by decide) (ro_kf (kd_163 hL)) (Nat.le_of_ble_eq_true rfl) (by decide) (by omega) (hF253 hL q14) ?_
        rintro _ _ ⟨e1, e2⟩
        rw [e1, e2]
        show ro_w X _ 253 _ 51 [(0, .ref 163), (1, .int v1), (2, .int v2), (3, .int v3), (4, .int v4), (5, .long v5)] [] (F253 M v1 v2 (v3 - (1 : Int32)) v4 (v5 * (12 : Int64))) (0, 0)
        refine rs_ret ri_253_51 rm_253.2.1 (by decide) ?_
        exact ⟨by rfl, by unfold xmb_253; first | (simp only [if_neg h1, if_neg h2, if_neg h4]; done) | rfl⟩
    · have hp := hp.1 h2
      refine rs_aload_n ri_253_12 rfl rfl ?_
      refine rs_gf (v := .ref 183) ri_253_13 rfl (by decide) (ro_kf (kd_163 hL)) rfl (rf_163_32 hL) ?_
      refine rs_iload ri_253_16 rfl rfl ?_
      refine rs_dup2 ri_253_18 rfl rfl rfl ?_
      obtain ⟨q15, hp⟩ := hp
      refine rs_lald (v := (M.2.2.1 183 (v4.toNatClampNeg))) ri_253_19 rfl (by decide) (kd_183 hL) q15 rfl ?_
      refine rs_lload ri_253_20 rfl rfl ?_
      refine rs_ladd (r := ((M.2.2.1 183 (v4.toNatClampNeg)) + v5)) ri_253_22 rfl rfl ?_
      obtain ⟨q16, hp⟩ := hp
      refine rs_last (j := v4.toNatClampNeg) ri_253_23 rfl (by decide) (kd_183 hL) q16 rfl ?_
      refine rs_ret ri_253_24 rm_253.2.1 (by decide) ?_
      exact ⟨by rfl, by unfold xmb_253; first | (simp only [if_neg h1, if_pos h2]; done) | rfl⟩
  · have hp := hp.1 h1
    refine rs_ret ri_253_7 rm_253.2.1 (by decide) ?_
    exact ⟨by rfl, by unfold xmb_253; first | (simp only [if_pos h1]; done) | rfl⟩
theorem xlb_253 {X : ro_Sx} {k : Nat} {F253 : ro_Mm → Int32 → Int32 → Int32 → Int32 → Int64 → ro_Mm} {P253 : ro_Mm → Int32 → Int32 → Int32 → Int32 → Int64 → Prop} (hF253 : ∀ {M : ro_Mm} {v1 : Int32} {v2 : Int32} {v3 : Int32} {v4 : Int32} {v5 : Int64}, ro_lay M → P253 M v1 v2 v3 v4 v5 → ro_cwp X k 253 [.ref 163, .int v1, .int v2, .int v3, .int v4, .long v5] M (fun v M2 => v = none ∧ M2 = (F253 M v1 v2 v3 v4 v5))) (hl253 : ∀ {M : ro_Mm} {v1 : Int32} {v2 : Int32} {v3 : Int32} {v4 : Int32} {v5 : Int64}, ro_lay M → P253 M v1 v2 v3 v4 v5 → ro_lay (F253 M v1 v2 v3 v4 v5)) {M : ro_Mm} {v1 : Int32} {v2 : Int32} {v3 : Int32} {v4 : Int32} {v5 : Int64} (hL : ro_lay M) (hp : xpb_253 F253 P253 M v1 v2 v3 v4 v5) : ro_lay (xmb_253 F253 M v1 v2 v3 v4 v5) := by
  unfold xpb_253 at hp
  unfold xmb_253
  by_cases hz : (lg_cmp v5 (0 : Int64)) = (0 : Int32)
  · have hp := hp.1 hz
    rw [if_pos hz]
    first | exact hL | (have hl := hL; exact hl)
  · have hp := hp.2 hz
    rw [if_neg hz]
    by_cases hz : v3 = (0 : Int32)
    · have hp := hp.1 hz
      rw [if_pos hz]
      obtain ⟨q15, hp⟩ := hp
      obtain ⟨q16, hp⟩ := hp
      first | exact hL | (have hl := hL; exact hl)
    · have hp := hp.2 hz
      rw [if_neg hz]
      obtain ⟨q2, hp⟩ := hp
      by_cases hz : (xf_241 M v1 v2)
      · have hp := hp.1 hz
        rw [if_pos hz]
        obtain ⟨q4, hp⟩ := hp
        obtain ⟨q5, hp⟩ := hp
        obtain ⟨q6, hp⟩ := hp
        obtain ⟨q7, hp⟩ := hp
        obtain ⟨q8, hp⟩ := hp
        obtain ⟨q9, hp⟩ := hp
        obtain ⟨q10, hp⟩ := hp
        obtain ⟨q11, hp⟩ := hp
        obtain ⟨q12, hp⟩ := hp
        obtain ⟨q13, hp⟩ := hp
        first | exact (xl_245 (hl253 (xl_245 (hl253 (xl_244 (xl_229 hL q4) q5) q6) q11) q12) q13) | (have hl := (xl_245 (hl253 (xl_245 (hl253 (xl_244 (xl_229 hL q4) q5) q6) q11) q12) q13); exact hl)
      · have hp := hp.2 hz
        rw [if_neg hz]
        obtain ⟨q14, hp⟩ := hp
        first | exact (hl253 hL q14) | (have hl := (hl253 hL q14); exact hl)
noncomputable def xr_pay : Nat → (ro_Mm → Int32 → Int32 → Int32 → Int32 → Int64 → ro_Mm)
  | 0 => fun M v1 v2 v3 v4 v5 => M
  | n + 1 => fun M v1 v2 v3 v4 v5 => (xmb_253 (xr_pay n) M v1 v2 v3 v4 v5)
def xpr_pay : Nat → (ro_Mm → Int32 → Int32 → Int32 → Int32 → Int64 → Prop)
  | 0 => fun _ _ _ _ _ _ => False
  | n + 1 => fun M v1 v2 v3 v4 v5 => xpb_253 (xr_pay n) (xpr_pay n) M v1 v2 v3 v4 v5
theorem xsr_pay {X : ro_Sx} : ∀ n : Nat, (∀ {M : ro_Mm} {v1 : Int32} {v2 : Int32} {v3 : Int32} {v4 : Int32} {v5 : Int64}, ro_lay M → xpr_pay n M v1 v2 v3 v4 v5 → ro_cwp X (7 * n) 253 [.ref 163, .int v1, .int v2, .int v3, .int v4, .long v5] M (fun v M2 => v = none ∧ M2 = (xr_pay n M v1 v2 v3 v4 v5))) ∧ (∀ {M : ro_Mm} {v1 : Int32} {v2 : Int32} {v3 : Int32} {v4 : Int32} {v5 : Int64}, ro_lay M → xpr_pay n M v1 v2 v3 v4 v5 → ro_lay (xr_pay n M v1 v2 v3 v4 v5)) := by
  intro n
  induction n with
  | zero => exact ⟨fun _ hp => False.elim hp, fun _ hp => False.elim hp⟩
  | succ n ih =>
    obtain ⟨f253, l253⟩ := ih
    refine ⟨?_, ?_⟩
    · intro M v1 v2 v3 v4 v5 hL hp
      exact ro_cwp_up (by omega) (fun _ _ h => h) (xsb_253 f253 l253 hL hp)
    · intro M v1 v2 v3 v4 v5 hL hp
      exact xlb_253 (X := X) f253 l253 hL hp
noncomputable def xm_253 (M : ro_Mm) (v1 : Int32) (v2 : Int32) (v3 : Int32) (v4 : Int32) (v5 : Int64) : ro_Mm := (xr_pay rc_N M v1 v2 v3 v4 v5)
def xp_253 (M : ro_Mm) (v1 : Int32) (v2 : Int32) (v3 : Int32) (v4 : Int32) (v5 : Int64) : Prop := xpr_pay rc_N M v1 v2 v3 v4 v5
theorem xs_253 {X : ro_Sx} {M : ro_Mm} {v1 : Int32} {v2 : Int32} {v3 : Int32} {v4 : Int32} {v5 : Int64} (hL : ro_lay M) (hp : xp_253 M v1 v2 v3 v4 v5) : ro_cwp X 700 253 [.ref 163, .int v1, .int v2, .int v3, .int v4, .long v5] M (fun v M2 => v = none ∧ M2 = xm_253 M v1 v2 v3 v4 v5) :=
  ro_cwp_up (by rw [rc_N_eq]; exact Nat.le_refl _) (fun _ _ h => h) ((xsr_pay (X := X) rc_N).1 hL hp)
theorem xl_253 {M : ro_Mm} {v1 : Int32} {v2 : Int32} {v3 : Int32} {v4 : Int32} {v5 : Int64} (hL : ro_lay M) (hp : xp_253 M v1 v2 v3 v4 v5) : ro_lay (xm_253 M v1 v2 v3 v4 v5) := (xsr_pay (X := (0, fun _ => 0)) rc_N).2 hL hp
/-- a loop of RefusedOnceModel.goStay(I)V -/
noncomputable def xg_257_48 (F257 : ro_Mm → Int32 → ro_Mm) : Nat → ro_Mm → Int32 → Int32 → Int64 → Int64 → Int32 → Int32 → Int32 × Int64 × Int64 × ro_Mm
  | 0, M, v8, v7, v5, v3, v2, v1 => (v8, v5, v3, M)
  | n + 1, M, v8, v7, v5, v3, v2, v1 => (if (M.2.1 163 1) ≤ v8 then (v8, v5, v3, M) else (if v7 = v8 then (xg_257_48 F257 n M (v8 + (1 : Int32)) v7 v5 v3 v2 v1) else (if (xf_241 M v7 v8) then (xg_257_48 F257 n (xm_245 (F257 (xm_245 (xm_229 M v7 v8) v7 v8) (v1 - (1 : Int32))) v8 v7) (v8 + (1 : Int32)) v7 (xf_254 (xm_245 (F257 (xm_245 (xm_229 M v7 v8) v7 v8) (v1 - (1 : Int32))) v8 v7) ((v3 * ((F257 (xm_245 (xm_229 M v7 v8) v7 v8) (v1 - (1 : Int32))).2.2.1 163 34)) + (((((12 : Int32) - (xf_229 M v7 v8)).toInt64) * ((F257 (xm_245 (xm_229 M v7 v8) v7 v8) (v1 - (1 : Int32))).2.2.1 163 33)) * v5)) (v5 * ((F257 (xm_245 (xm_229 M v7 v8) v7 v8) (v1 - (1 : Int32))).2.2.1 163 34)) (1 : Int32)) (xf_254 (xm_245 (F257 (xm_245 (xm_229 M v7 v8) v7 v8) (v1 - (1 : Int32))) v8 v7) ((v3 * ((F257 (xm_245 (xm_229 M v7 v8) v7 v8) (v1 - (1 : Int32))).2.2.1 163 34)) + (((((12 : Int32) - (xf_229 M v7 v8)).toInt64) * ((F257 (xm_245 (xm_229 M v7 v8) v7 v8) (v1 - (1 : Int32))).2.2.1 163 33)) * v5)) (v5 * ((F257 (xm_245 (xm_229 M v7 v8) v7 v8) (v1 - (1 : Int32))).2.2.1 163 34)) (0 : Int32)) v2 v1) else (xg_257_48 F257 n M (v8 + (1 : Int32)) v7 v5 v3 v2 v1))))
def xq_257_48 (F257 : ro_Mm → Int32 → ro_Mm) (P257 : ro_Mm → Int32 → Prop) : Nat → ro_Mm → Int32 → Int32 → Int64 → Int64 → Int32 → Int32 → Prop
  | 0, _, _, _, _, _, _, _ => False
  | n + 1, M, v8, v7, v5, v3, v2, v1 => (((M.2.1 163 1) ≤ v8 → True) ∧ (¬ ((M.2.1 163 1) ≤ v8) → ((v7 = v8 → (xq_257_48 F257 P257 n M (v8 + (1 : Int32)) v7 v5 v3 v2 v1)) ∧ (¬ (v7 = v8) → (xp_241 M v7 v8 ∧ (((xf_241 M v7 v8) → (xp_229 M v7 v8 ∧ (xp_245 (xm_229 M v7 v8) v7 v8 ∧ (P257 (xm_245 (xm_229 M v7 v8) v7 v8) (v1 - (1 : Int32)) ∧ (xp_245 (F257 (xm_245 (xm_229 M v7 v8) v7 v8) (v1 - (1 : Int32))) v8 v7 ∧ (xp_254 (xm_245 (F257 (xm_245 (xm_229 M v7 v8) v7 v8) (v1 - (1 : Int32))) v8 v7) ((v3 * ((F257 (xm_245 (xm_229 M v7 v8) v7 v8) (v1 - (1 : Int32))).2.2.1 163 34)) + (((((12 : Int32) - (xf_229 M v7 v8)).toInt64) * ((F257 (xm_245 (xm_229 M v7 v8) v7 v8) (v1 - (1 : Int32))).2.2.1 163 33)) * v5)) (v5 * ((F257 (xm_245 (xm_229 M v7 v8) v7 v8) (v1 - (1 : Int32))).2.2.1 163 34)) (0 : Int32) ∧ (xp_254 (xm_245 (F257 (xm_245 (xm_229 M v7 v8) v7 v8) (v1 - (1 : Int32))) v8 v7) ((v3 * ((F257 (xm_245 (xm_229 M v7 v8) v7 v8) (v1 - (1 : Int32))).2.2.1 163 34)) + (((((12 : Int32) - (xf_229 M v7 v8)).toInt64) * ((F257 (xm_245 (xm_229 M v7 v8) v7 v8) (v1 - (1 : Int32))).2.2.1 163 33)) * v5)) (v5 * ((F257 (xm_245 (xm_229 M v7 v8) v7 v8) (v1 - (1 : Int32))).2.2.1 163 34)) (1 : Int32) ∧ (xq_257_48 F257 P257 n (xm_245 (F257 (xm_245 (xm_229 M v7 v8) v7 v8) (v1 - (1 : Int32))) v8 v7) (v8 + (1 : Int32)) v7 (xf_254 (xm_245 (F257 (xm_245 (xm_229 M v7 v8) v7 v8) (v1 - (1 : Int32))) v8 v7) ((v3 * ((F257 (xm_245 (xm_229 M v7 v8) v7 v8) (v1 - (1 : Int32))).2.2.1 163 34)) + (((((12 : Int32) - (xf_229 M v7 v8)).toInt64) * ((F257 (xm_245 (xm_229 M v7 v8) v7 v8) (v1 - (1 : Int32))).2.2.1 163 33)) * v5)) (v5 * ((F257 (xm_245 (xm_229 M v7 v8) v7 v8) (v1 - (1 : Int32))).2.2.1 163 34)) (1 : Int32)) (xf_254 (xm_245 (F257 (xm_245 (xm_229 M v7 v8) v7 v8) (v1 - (1 : Int32))) v8 v7) ((v3 * ((F257 (xm_245 (xm_229 M v7 v8) v7 v8) (v1 - (1 : Int32))).2.2.1 163 34)) + (((((12 : Int32) - (xf_229 M v7 v8)).toInt64) * ((F257 (xm_245 (xm_229 M v7 v8) v7 v8) (v1 - (1 : Int32))).2.2.1 163 33)) * v5)) (v5 * ((F257 (xm_245 (xm_229 M v7 v8) v7 v8) (v1 - (1 : Int32))).2.2.1 163 34)) (0 : Int32)) v2 v1)))))))) ∧ (¬ ((xf_241 M v7 v8)) → (xq_257_48 F257 P257 n M (v8 + (1 : Int32)) v7 v5 v3 v2 v1))))))))
theorem xt_257_48 {X : ro_Sx} {post : ro_Po} {k : Nat} {F257 : ro_Mm → Int32 → ro_Mm} {P257 : ro_Mm → Int32 → Prop} (hF257 : ∀ {M : ro_Mm} {v1 : Int32}, ro_lay M → P257 M v1 → ro_cwp X k 257 [.ref 163, .int v1] M (fun v M2 => v = none ∧ M2 = (F257 M v1))) (hl257 : ∀ {M : ro_Mm} {v1 : Int32}, ro_lay M → P257 M v1 → ro_lay (F257 M v1)) : ∀ (n : Nat) {M : ro_Mm} {v8 : Int32} {v7 : Int32} {v5 : Int64} {v3 : Int64} {v2 : Int32} {v1 : Int32} (hL : ro_lay M) (hp : xq_257_48 F257 P257 n M v8 v7 v5 v3 v2 v1) (hk : ro_w X (k + 4) 257 post 168 [(8, .int (xg_257_48 F257 n M v8 v7 v5 v3 v2 v1).1), (7, .int v7), (5, .long (xg_257_48 F257 n M v8 v7 v5 v3 v2 v1).2.1), (3, .long (xg_257_48 F257 n M v8 v7 v5 v3 v2 v1).2.2.1), (2, .int v2), (0, .ref 163), (1, .int v1)] [] (xg_257_48 F257 n M v8 v7 v5 v3 v2 v1).2.2.2 (0, 0)), ro_w X (k + 4) 257 post 48 [(8, .int v8), (7, .int v7), (5, .long v5), (3, .long v3), (2, .int v2), (0, .ref 163), (1, .int v1)] [] M (0, 0) := by
  intro n
  induction n with
  | zero => intro M v8 v7 v5 v3 v2 v1 hL hp hk; exact False.elim hp
  | succ n ih =>
    intro M v8 v7 v5 v3 v2 v1 hL hp hk
    rw [xq_257_48] at hp
    refine rs_iload ri_257_48 rfl rfl ?_
    refine rs_aload_n ri_257_50 rfl rfl ?_
    refine rs_gf (v := .int (M.2.1 163 1)) ri_257_51 rfl (by decide) (ro_kf (kd_163 hL)) rfl rfl ?_
    refine rs_icmp_ge (t := 168) ri_257_54 rfl rfl (fun h5 => ?_) (fun h5 => ?_)
    · skip
      have e : xg_257_48 F257 (n + 1) M v8 v7 v5 v3 v2 v1 = (v8, v5, v3, M) := by rw [xg_257_48]; first | (simp only [if_pos h5]; done) | rfl
      rw [e] at hk
      exact ro_w_lv (ro_sub_c rfl (ro_sub_c rfl (ro_sub_c rfl (ro_sub_c rfl (ro_sub_c rfl (ro_sub_c rfl (ro_sub_c rfl (ro_sub_n rfl)))))))) hk
    · have hp := hp.2 h5
      refine rs_iload ri_257_57 rfl rfl ?_
      refine rs_iload ri_257_59 rfl rfl ?_
      refine rs_icmp_eq (t := 162) ri_257_61 rfl rfl (fun h6 => ?_) (fun h6 => ?_)
      · have hp := hp.1 h6
        refine rs_iinc (v := (v8 + (1 : Int32))) (lv2 := [(8, .int (v8 + (1 : Int32))), (7, .int v7), (5, .long v5), (3, .long v3), (2, .int v2), (0, .ref 163), (1, .int v1)]) ri_257_162 rfl rfl rfl rm_257.1 (by decide) rfl ?_
        refine rs_goto (t := 48) ri_257_165 rfl ?_
        have e : xg_257_48 F257 (n + 1) M v8 v7 v5 v3 v2 v1 = xg_257_48 F257 n M (v8 + (1 : Int32)) v7 v5 v3 v2 v1 := by rw [xg_257_48]; first | (simp only [if_neg h5, if_pos h6]; done) | rfl
        rw [e] at hk
        exact ro_w_lv (ro_sub_c rfl (ro_sub_c rfl (ro_sub_c rfl (ro_sub_c rfl (ro_sub_c rfl (ro_sub_c rfl (ro_sub_c rfl (ro_sub_n rfl)))))))) (ih hL  hp hk)
      · have hp := hp.2 h6
        refine rs_aload_n ri_257_64 rfl rfl ?_
        refine rs_iload ri_257_65 rfl rfl ?_
        refine rs_iload ri_257_67 rfl rfl ?_
        obtain ⟨q6, hp⟩ := hp
        refine rs_virt (As := [.int v7, .int v8]) (r := []) ri_257_69 rfl (by decide) rm_241.2.2.2 rm_241.2.2.1 rfl rfl rfl (by decide) (ro_kf (kd_163 hL)) (Nat.le_of_ble_eq_true rfl) (by decide) (by omega) (xs_241 (X := X) hL q6) ?_
        rintro _ _ ⟨e1, e2⟩
        rw [e1, e2]
        show ro_w X _ 257 _ 72 [(8, .int v8), (7, .int v7), (5, .long v5), (3, .long v3), (2, .int v2), (0, .ref 163), (1, .int v1)] [.int (ro_b (xf_241 M v7 v8))] M (0, 0)
        refine rs_ifne_c (t := 78) ri_257_72 rfl rfl (fun h8 => ?_) (fun h8 => ?_)
        · have hp := hp.1 h8
          refine rs_bipush (v := (12 : Int32)) ri_257_78 rfl (by decide) ?_
          refine rs_aload_n ri_257_80 rfl rfl ?_
          refine rs_iload ri_257_81 rfl rfl ?_
          refine rs_iload ri_257_83 rfl rfl ?_
          obtain ⟨q8, hp⟩ := hp
          refine rs_virt (As := [.int v7, .int v8]) (r := [.int (12 : Int32)]) ri_257_85 rfl (by decide) rm_229.2.2.2 rm_229.2.2.1 rfl rfl rfl (by decide) (ro_kf (kd_163 hL)) (Nat.le_of_ble_eq_true rfl) (by decide) (by omega) (xs_229 (X := X) hL q8) ?_
          rintro _ _ ⟨e1, e2⟩
          rw [e1, e2]
          show ro_w X _ 257 _ 88 [(8, .int v8), (7, .int v7), (5, .long v5), (3, .long v3), (2, .int v2), (0, .ref 163), (1, .int v1)] [.int (xf_229 M v7 v8), .int (12 : Int32)] (xm_229 M v7 v8) (0, 0)
          refine rs_isub (r := ((12 : Int32) - (xf_229 M v7 v8))) ri_257_88 rfl rfl ?_
          refine rs_istore (lv2 := [(9, .int ((12 : Int32) - (xf_229 M v7 v8))), (8, .int v8), (7, .int v7), (5, .long v5), (3, .long v3), (2, .int v2), (0, .ref 163), (1, .int v1)]) ri_257_89 rfl rm_257.1 (by decide) rfl ?_
          refine rs_aload_n ri_257_91 rfl rfl ?_
          refine rs_iload ri_257_92 rfl rfl ?_
          refine rs_iload ri_257_94 rfl rfl ?_
          obtain ⟨q9, hp⟩ := hp
          refine rs_virt (As := [.int v7, .int v8]) (r := []) ri_257_96 rfl (by decide) rm_245.2.2.2 rm_245.2.2.1 rfl rfl rfl (by decide) (ro_kf (kd_163 (xl_229 hL q8))) (Nat.le_of_ble_eq_true rfl) (by decide) (by omega) (xs_245 (X := X) (xl_229 hL q8) q9) ?_
          rintro _ _ ⟨e1, e2⟩
          rw [e1, e2]
          show ro_w X _ 257 _ 99 [(9, .int ((12 : Int32) - (xf_229 M v7 v8))), (8, .int v8), (7, .int v7), (5, .long v5), (3, .long v3), (2, .int v2), (0, .ref 163), (1, .int v1)] [] (xm_245 (xm_229 M v7 v8) v7 v8) (0, 0)
          refine rs_aload_n ri_257_99 rfl rfl ?_
          refine rs_iload_n ri_257_100 rfl rfl ?_
          refine rs_iconst (v := (1 : Int32)) ri_257_101 rfl (by decide) ?_
          refine rs_isub (r := (v1 - (1 : Int32))) ri_257_102 rfl rfl ?_
          obtain ⟨q10, hp⟩ := hp
          refine rs_virt (As := [.int (v1 - (1 : Int32))]) (r := []) ri_257_103 rfl (by decide) rm_257.2.2.2 rm_257.2.2.1 rfl rfl rfl (by decide) (ro_kf (kd_163 (xl_245 (xl_229 hL q8) q9))) (Nat.le_of_ble_eq_true rfl) (by decide) (by omega) (hF257 (xl_245 (xl_229 hL q8) q9) q10) ?_
          rintro _ _ ⟨e1, e2⟩
          rw [e1, e2]
          show ro_w X _ 257 _ 106 [(9, .int ((12 : Int32) - (xf_229 M v7 v8))), (8, .int v8), (7, .int v7), (5, .long v5), (3, .long v3), (2, .int v2), (0, .ref 163), (1, .int v1)] [] (F257 (xm_245 (xm_229 M v7 v8) v7 v8) (v1 - (1 : Int32))) (0, 0)
          refine rs_aload_n ri_257_106 rfl rfl ?_
          refine rs_iload ri_257_107 rfl rfl ?_
          refine rs_iload ri_257_109 rfl rfl ?_
          obtain ⟨q11, hp⟩ := hp
          refine rs_virt (As := [.int v8, .int v7]) (r := []) ri_257_111 rfl (by decide) rm_245.2.2.2 rm_245.2.2.1 rfl rfl rfl (by decide) (ro_kf (kd_163 (hl257 (xl_245 (xl_229 hL q8) q9) q10))) (Nat.le_of_ble_eq_true rfl) (by decide) (by omega) (xs_245 (X := X) (hl257 (xl_245 (xl_229 hL q8) q9) q10) q11) ?_
          rintro _ _ ⟨e1, e2⟩
          rw [e1, e2]
          show ro_w X _ 257 _ 114 [(9, .int ((12 : Int32) - (xf_229 M v7 v8))), (8, .int v8), (7, .int v7), (5, .long v5), (3, .long v3), (2, .int v2), (0, .ref 163), (1, .int v1)] [] (xm_245 (F257 (xm_245 (xm_229 M v7 v8) v7 v8) (v1 - (1 : Int32))) v8 v7) (0, 0)
          refine rs_lload_n ri_257_114 rfl rfl ?_
          refine rs_aload_n ri_257_115 rfl rfl ?_
          refine rs_gf (v := .long ((F257 (xm_245 (xm_229 M v7 v8) v7 v8) (v1 - (1 : Int32))).2.2.1 163 34)) ri_257_116 rfl (by decide) (ro_kf (kd_163 (xl_245 (hl257 (xl_245 (xl_229 hL q8) q9) q10) q11))) rfl (congrArg Value.long (xwJ_245)) ?_
          refine rs_lmul (r := (v3 * ((F257 (xm_245 (xm_229 M v7 v8) v7 v8) (v1 - (1 : Int32))).2.2.1 163 34))) ri_257_119 rfl rfl ?_
          refine rs_iload ri_257_120 rfl rfl ?_
          refine rs_i2l (r := (((12 : Int32) - (xf_229 M v7 v8)).toInt64)) ri_257_122 rfl rfl ?_
          refine rs_aload_n ri_257_123 rfl rfl ?_
          refine rs_gf (v := .long ((F257 (xm_245 (xm_229 M v7 v8) v7 v8) (v1 - (1 : Int32))).2.2.1 163 33)) ri_257_124 rfl (by decide) (ro_kf (kd_163 (xl_245 (hl257 (xl_245 (xl_229 hL q8) q9) q10) q11))) rfl (congrArg Value.long (xwJ_245)) ?_
          refine rs_lmul (r := ((((12 : Int32) - (xf_229 M v7 v8)).toInt64) * ((F257 (xm_245 (xm_229 M v7 v8) v7 v8) (v1 - (1 : Int32))).2.2.1 163 33))) ri_257_127 rfl rfl ?_
          refine rs_lload ri_257_128 rfl rfl ?_
          refine rs_lmul (r := (((((12 : Int32) - (xf_229 M v7 v8)).toInt64) * ((F257 (xm_245 (xm_229 M v7 v8) v7 v8) (v1 - (1 : Int32))).2.2.1 163 33)) * v5)) ri_257_130 rfl rfl ?_
          refine rs_ladd (r := ((v3 * ((F257 (xm_245 (xm_229 M v7 v8) v7 v8) (v1 - (1 : Int32))).2.2.1 163 34)) + (((((12 : Int32) - (xf_229 M v7 v8)).toInt64) * ((F257 (xm_245 (xm_229 M v7 v8) v7 v8) (v1 - (1 : Int32))).2.2.1 163 33)) * v5))) ri_257_131 rfl rfl ?_
          refine rs_lstore (lv2 := [(10, .long ((v3 * ((F257 (xm_245 (xm_229 M v7 v8) v7 v8) (v1 - (1 : Int32))).2.2.1 163 34)) + (((((12 : Int32) - (xf_229 M v7 v8)).toInt64) * ((F257 (xm_245 (xm_229 M v7 v8) v7 v8) (v1 - (1 : Int32))).2.2.1 163 33)) * v5))), (9, .int ((12 : Int32) - (xf_229 M v7 v8))), (8, .int v8), (7, .int v7), (5, .long v5), (3, .long v3), (2, .int v2), (0, .ref 163), (1, .int v1)]) ri_257_132 rfl rm_257.1 (by decide) rfl ?_
          refine rs_lload ri_257_134 rfl rfl ?_
          refine rs_aload_n ri_257_136 rfl rfl ?_
          refine rs_gf (v := .long ((F257 (xm_245 (xm_229 M v7 v8) v7 v8) (v1 - (1 : Int32))).2.2.1 163 34)) ri_257_137 rfl (by decide) (ro_kf (kd_163 (xl_245 (hl257 (xl_245 (xl_229 hL q8) q9) q10) q11))) rfl (congrArg Value.long (xwJ_245)) ?_
          refine rs_lmul (r := (v5 * ((F257 (xm_245 (xm_229 M v7 v8) v7 v8) (v1 - (1 : Int32))).2.2.1 163 34))) ri_257_140 rfl rfl ?_
          refine rs_lstore (lv2 := [(12, .long (v5 * ((F257 (xm_245 (xm_229 M v7 v8) v7 v8) (v1 - (1 : Int32))).2.2.1 163 34))), (10, .long ((v3 * ((F257 (xm_245 (xm_229 M v7 v8) v7 v8) (v1 - (1 : Int32))).2.2.1 163 34)) + (((((12 : Int32) - (xf_229 M v7 v8)).toInt64) * ((F257 (xm_245 (xm_229 M v7 v8) v7 v8) (v1 - (1 : Int32))).2.2.1 163 33)) * v5))), (9, .int ((12 : Int32) - (xf_229 M v7 v8))), (8, .int v8), (7, .int v7), (5, .long v5), (3, .long v3), (2, .int v2), (0, .ref 163), (1, .int v1)]) ri_257_141 rfl rm_257.1 (by decide) rfl ?_
          refine rs_lload ri_257_143 rfl rfl ?_
          refine rs_lload ri_257_145 rfl rfl ?_
          refine rs_iconst (v := (0 : Int32)) ri_257_147 rfl (by decide) ?_
          obtain ⟨q12, hp⟩ := hp
          refine rs_stat (As := [.long ((v3 * ((F257 (xm_245 (xm_229 M v7 v8) v7 v8) (v1 - (1 : Int32))).2.2.1 163 34)) + (((((12 : Int32) - (xf_229 M v7 v8)).toInt64) * ((F257 (xm_245 (xm_229 M v7 v8) v7 v8) (v1 - (1 : Int32))).2.2.1 163 33)) * v5)), .long (v5 * ((F257 (xm_245 (xm_229 M v7 v8) v7 v8) (v1 - (1 : Int32))).2.2.1 163 34)), .int (0 : Int32)]) (r := []) ri_257_148 rfl rm_254.2.2.2 rfl rfl rfl (Nat.le_of_ble_eq_true rfl) (by decide) (by omega) (xs_254 (X := X) (xl_245 (hl257 (xl_245 (xl_229 hL q8) q9) q10) q11) q12) ?_
          rintro _ _ ⟨e1, e2⟩
          rw [e1, e2]
          show ro_w X _ 257 _ 151 [(12, .long (v5 * ((F257 (xm_245 (xm_229 M v7 v8) v7 v8) (v1 - (1 : Int32))).2.2.1 163 34))), (10, .long ((v3 * ((F257 (xm_245 (xm_229 M v7 v8) v7 v8) (v1 - (1 : Int32))).2.2.1 163 34)) + (((((12 : Int32) - (xf_229 M v7 v8)).toInt64) * ((F257 (xm_245 (xm_229 M v7 v8) v7 v8) (v1 - (1 : Int32))).2.2.1 163 33)) * v5))), (9, .int ((12 : Int32) - (xf_229 M v7 v8))), (8, .int v8), (7, .int v7), (5, .long v5), (3, .long v3), (2, .int v2), (0, .ref 163), (1, .int v1)] [.long (xf_254 (xm_245 (F257 (xm_245 (xm_229 M v7 v8) v7 v8) (v1 - (1 : Int32))) v8 v7) ((v3 * ((F257 (xm_245 (xm_229 M v7 v8) v7 v8) (v1 - (1 : Int32))).2.2.1 163 34)) + (((((12 : Int32) - (xf_229 M v7 v8)).toInt64) * ((F257 (xm_245 (xm_229 M v7 v8) v7 v8) (v1 - (1 : Int32))).2.2.1 163 33)) * v5)) (v5 * ((F257 (xm_245 (xm_229 M v7 v8) v7 v8) (v1 - (1 : Int32))).2.2.1 163 34)) (0 : Int32))] (xm_245 (F257 (xm_245 (xm_229 M v7 v8) v7 v8) (v1 - (1 : Int32))) v8 v7) (0, 0)
          refine rs_lstore_n (lv2 := [(3, .long (xf_254 (xm_245 (F257 (xm_245 (xm_229 M v7 v8) v7 v8) (v1 - (1 : Int32))) v8 v7) ((v3 * ((F257 (xm_245 (xm_229 M v7 v8) v7 v8) (v1 - (1 : Int32))).2.2.1 163 34)) + (((((12 : Int32) - (xf_229 M v7 v8)).toInt64) * ((F257 (xm_245 (xm_229 M v7 v8) v7 v8) (v1 - (1 : Int32))).2.2.1 163 33)) * v5)) (v5 * ((F257 (xm_245 (xm_229 M v7 v8) v7 v8) (v1 - (1 : Int32))).2.2.1 163 34)) (0 : Int32))), (12, .long (v5 * ((F257 (xm_245 (xm_229 M v7 v8) v7 v8) (v1 - (1 : Int32))).2.2.1 163 34))), (10, .long ((v3 * ((F257 (xm_245 (xm_229 M v7 v8) v7 v8) (v1 - (1 : Int32))).2.2.1 163 34)) + (((((12 : Int32) - (xf_229 M v7 v8)).toInt64) * ((F257 (xm_245 (xm_229 M v7 v8) v7 v8) (v1 - (1 : Int32))).2.2.1 163 33)) * v5))), (9, .int ((12 : Int32) - (xf_229 M v7 v8))), (8, .int v8), (7, .int v7), (5, .long v5), (2, .int v2), (0, .ref 163), (1, .int v1)]) ri_257_151 rfl rm_257.1 (by decide) rfl ?_
          refine rs_lload ri_257_152 rfl rfl ?_
          refine rs_lload ri_257_154 rfl rfl ?_
          refine rs_iconst (v := (1 : Int32)) ri_257_156 rfl (by decide) ?_
          obtain ⟨q13, hp⟩ := hp
          refine rs_stat (As := [.long ((v3 * ((F257 (xm_245 (xm_229 M v7 v8) v7 v8) (v1 - (1 : Int32))).2.2.1 163 34)) + (((((12 : Int32) - (xf_229 M v7 v8)).toInt64) * ((F257 (xm_245 (xm_229 M v7 v8) v7 v8) (v1 - (1 : Int32))).2.2.1 163 33)) * v5)), .long (v5 * ((F257 (xm_245 (xm_229 M v7 v8) v7 v8) (v1 - (1 : Int32))).2.2.1 163 34)), .int (1 : Int32)]) (r := []) ri_257_157 rfl rm_254.2.2.2 rfl rfl rfl (Nat.le_of_ble_eq_true rfl) (by decide) (by omega) (xs_254 (X := X) (xl_245 (hl257 (xl_245 (xl_229 hL q8) q9) q10) q11) q13) ?_
          rintro _ _ ⟨e1, e2⟩
          rw [e1, e2]
          show ro_w X _ 257 _ 160 [(3, .long (xf_254 (xm_245 (F257 (xm_245 (xm_229 M v7 v8) v7 v8) (v1 - (1 : Int32))) v8 v7) ((v3 * ((F257 (xm_245 (xm_229 M v7 v8) v7 v8) (v1 - (1 : Int32))).2.2.1 163 34)) + (((((12 : Int32) - (xf_229 M v7 v8)).toInt64) * ((F257 (xm_245 (xm_229 M v7 v8) v7 v8) (v1 - (1 : Int32))).2.2.1 163 33)) * v5)) (v5 * ((F257 (xm_245 (xm_229 M v7 v8) v7 v8) (v1 - (1 : Int32))).2.2.1 163 34)) (0 : Int32))), (12, .long (v5 * ((F257 (xm_245 (xm_229 M v7 v8) v7 v8) (v1 - (1 : Int32))).2.2.1 163 34))), (10, .long ((v3 * ((F257 (xm_245 (xm_229 M v7 v8) v7 v8) (v1 - (1 : Int32))).2.2.1 163 34)) + (((((12 : Int32) - (xf_229 M v7 v8)).toInt64) * ((F257 (xm_245 (xm_229 M v7 v8) v7 v8) (v1 - (1 : Int32))).2.2.1 163 33)) * v5))), (9, .int ((12 : Int32) - (xf_229 M v7 v8))), (8, .int v8), (7, .int v7), (5, .long v5), (2, .int v2), (0, .ref 163), (1, .int v1)] [.long (xf_254 (xm_245 (F257 (xm_245 (xm_229 M v7 v8) v7 v8) (v1 - (1 : Int32))) v8 v7) ((v3 * ((F257 (xm_245 (xm_229 M v7 v8) v7 v8) (v1 - (1 : Int32))).2.2.1 163 34)) + (((((12 : Int32) - (xf_229 M v7 v8)).toInt64) * ((F257 (xm_245 (xm_229 M v7 v8) v7 v8) (v1 - (1 : Int32))).2.2.1 163 33)) * v5)) (v5 * ((F257 (xm_245 (xm_229 M v7 v8) v7 v8) (v1 - (1 : Int32))).2.2.1 163 34)) (1 : Int32))] (xm_245 (F257 (xm_245 (xm_229 M v7 v8) v7 v8) (v1 - (1 : Int32))) v8 v7) (0, 0)
          refine rs_lstore (lv2 := [(5, .long (xf_254 (xm_245 (F257 (xm_245 (xm_229 M v7 v8) v7 v8) (v1 - (1 : Int32))) v8 v7) ((v3 * ((F257 (xm_245 (xm_229 M v7 v8) v7 v8) (v1 - (1 : Int32))).2.2.1 163 34)) + (((((12 : Int32) - (xf_229 M v7 v8)).toInt64) * ((F257 (xm_245 (xm_229 M v7 v8) v7 v8) (v1 - (1 : Int32))).2.2.1 163 33)) * v5)) (v5 * ((F257 (xm_245 (xm_229 M v7 v8) v7 v8) (v1 - (1 : Int32))).2.2.1 163 34)) (1 : Int32))), (3, .long (xf_254 (xm_245 (F257 (xm_245 (xm_229 M v7 v8) v7 v8) (v1 - (1 : Int32))) v8 v7) ((v3 * ((F257 (xm_245 (xm_229 M v7 v8) v7 v8) (v1 - (1 : Int32))).2.2.1 163 34)) + (((((12 : Int32) - (xf_229 M v7 v8)).toInt64) * ((F257 (xm_245 (xm_229 M v7 v8) v7 v8) (v1 - (1 : Int32))).2.2.1 163 33)) * v5)) (v5 * ((F257 (xm_245 (xm_229 M v7 v8) v7 v8) (v1 - (1 : Int32))).2.2.1 163 34)) (0 : Int32))), (12, .long (v5 * ((F257 (xm_245 (xm_229 M v7 v8) v7 v8) (v1 - (1 : Int32))).2.2.1 163 34))), (10, .long ((v3 * ((F257 (xm_245 (xm_229 M v7 v8) v7 v8) (v1 - (1 : Int32))).2.2.1 163 34)) + (((((12 : Int32) - (xf_229 M v7 v8)).toInt64) * ((F257 (xm_245 (xm_229 M v7 v8) v7 v8) (v1 - (1 : Int32))).2.2.1 163 33)) * v5))), (9, .int ((12 : Int32) - (xf_229 M v7 v8))), (8, .int v8), (7, .int v7), (2, .int v2), (0, .ref 163), (1, .int v1)]) ri_257_160 rfl rm_257.1 (by decide) rfl ?_
          refine rs_iinc (v := (v8 + (1 : Int32))) (lv2 := [(8, .int (v8 + (1 : Int32))), (5, .long (xf_254 (xm_245 (F257 (xm_245 (xm_229 M v7 v8) v7 v8) (v1 - (1 : Int32))) v8 v7) ((v3 * ((F257 (xm_245 (xm_229 M v7 v8) v7 v8) (v1 - (1 : Int32))).2.2.1 163 34)) + (((((12 : Int32) - (xf_229 M v7 v8)).toInt64) * ((F257 (xm_245 (xm_229 M v7 v8) v7 v8) (v1 - (1 : Int32))).2.2.1 163 33)) * v5)) (v5 * ((F257 (xm_245 (xm_229 M v7 v8) v7 v8) (v1 - (1 : Int32))).2.2.1 163 34)) (1 : Int32))), (3, .long (xf_254 (xm_245 (F257 (xm_245 (xm_229 M v7 v8) v7 v8) (v1 - (1 : Int32))) v8 v7) ((v3 * ((F257 (xm_245 (xm_229 M v7 v8) v7 v8) (v1 - (1 : Int32))).2.2.1 163 34)) + (((((12 : Int32) - (xf_229 M v7 v8)).toInt64) * ((F257 (xm_245 (xm_229 M v7 v8) v7 v8) (v1 - (1 : Int32))).2.2.1 163 33)) * v5)) (v5 * ((F257 (xm_245 (xm_229 M v7 v8) v7 v8) (v1 - (1 : Int32))).2.2.1 163 34)) (0 : Int32))), (12, .long (v5 * ((F257 (xm_245 (xm_229 M v7 v8) v7 v8) (v1 - (1 : Int32))).2.2.1 163 34))), (10, .long ((v3 * ((F257 (xm_245 (xm_229 M v7 v8) v7 v8) (v1 - (1 : Int32))).2.2.1 163 34)) + (((((12 : Int32) - (xf_229 M v7 v8)).toInt64) * ((F257 (xm_245 (xm_229 M v7 v8) v7 v8) (v1 - (1 : Int32))).2.2.1 163 33)) * v5))), (9, .int ((12 : Int32) - (xf_229 M v7 v8))), (7, .int v7), (2, .int v2), (0, .ref 163), (1, .int v1)]) ri_257_162 rfl rfl rfl rm_257.1 (by decide) rfl ?_
          refine rs_goto (t := 48) ri_257_165 rfl ?_
          have e : xg_257_48 F257 (n + 1) M v8 v7 v5 v3 v2 v1 = xg_257_48 F257 n (xm_245 (F257 (xm_245 (xm_229 M v7 v8) v7 v8) (v1 - (1 : Int32))) v8 v7) (v8 + (1 : Int32)) v7 (xf_254 (xm_245 (F257 (xm_245 (xm_229 M v7 v8) v7 v8) (v1 - (1 : Int32))) v8 v7) ((v3 * ((F257 (xm_245 (xm_229 M v7 v8) v7 v8) (v1 - (1 : Int32))).2.2.1 163 34)) + (((((12 : Int32) - (xf_229 M v7 v8)).toInt64) * ((F257 (xm_245 (xm_229 M v7 v8) v7 v8) (v1 - (1 : Int32))).2.2.1 163 33)) * v5)) (v5 * ((F257 (xm_245 (xm_229 M v7 v8) v7 v8) (v1 - (1 : Int32))).2.2.1 163 34)) (1 : Int32)) (xf_254 (xm_245 (F257 (xm_245 (xm_229 M v7 v8) v7 v8) (v1 - (1 : Int32))) v8 v7) ((v3 * ((F257 (xm_245 (xm_229 M v7 v8) v7 v8) (v1 - (1 : Int32))).2.2.1 163 34)) + (((((12 : Int32) - (xf_229 M v7 v8)).toInt64) * ((F257 (xm_245 (xm_229 M v7 v8) v7 v8) (v1 - (1 : Int32))).2.2.1 163 33)) * v5)) (v5 * ((F257 (xm_245 (xm_229 M v7 v8) v7 v8) (v1 - (1 : Int32))).2.2.1 163 34)) (0 : Int32)) v2 v1 := by rw [xg_257_48]; first | (simp only [if_neg h5, if_neg h6, if_pos h8]; done) | rfl
          rw [e] at hk
          exact ro_w_lv (ro_sub_c rfl (ro_sub_c rfl (ro_sub_c rfl (ro_sub_c rfl (ro_sub_c rfl (ro_sub_c rfl (ro_sub_c rfl (ro_sub_n rfl)))))))) (ih (xl_245 (hl257 (xl_245 (xl_229 hL q8) q9) q10) q11)  hp hk)
        · have hp := hp.2 h8
          refine rs_goto (t := 162) ri_257_75 rfl ?_
          refine rs_iinc (v := (v8 + (1 : Int32))) (lv2 := [(8, .int (v8 + (1 : Int32))), (7, .int v7), (5, .long v5), (3, .long v3), (2, .int v2), (0, .ref 163), (1, .int v1)]) ri_257_162 rfl rfl rfl rm_257.1 (by decide) rfl ?_
          refine rs_goto (t := 48) ri_257_165 rfl ?_
          have e : xg_257_48 F257 (n + 1) M v8 v7 v5 v3 v2 v1 = xg_257_48 F257 n M (v8 + (1 : Int32)) v7 v5 v3 v2 v1 := by rw [xg_257_48]; first | (simp only [if_neg h5, if_neg h6, if_neg h8]; done) | rfl
          rw [e] at hk
          exact ro_w_lv (ro_sub_c rfl (ro_sub_c rfl (ro_sub_c rfl (ro_sub_c rfl (ro_sub_c rfl (ro_sub_c rfl (ro_sub_c rfl (ro_sub_n rfl)))))))) (ih hL  hp hk)
theorem xl_257_48 {X : ro_Sx} {k : Nat} {F257 : ro_Mm → Int32 → ro_Mm} {P257 : ro_Mm → Int32 → Prop} (hF257 : ∀ {M : ro_Mm} {v1 : Int32}, ro_lay M → P257 M v1 → ro_cwp X k 257 [.ref 163, .int v1] M (fun v M2 => v = none ∧ M2 = (F257 M v1))) (hl257 : ∀ {M : ro_Mm} {v1 : Int32}, ro_lay M → P257 M v1 → ro_lay (F257 M v1)) : ∀ (n : Nat) {M : ro_Mm} {v8 : Int32} {v7 : Int32} {v5 : Int64} {v3 : Int64} {v2 : Int32} {v1 : Int32} (hL : ro_lay M) (hp : xq_257_48 F257 P257 n M v8 v7 v5 v3 v2 v1), ro_lay (xg_257_48 F257 n M v8 v7 v5 v3 v2 v1).2.2.2 := by
  intro n
  induction n with
  | zero => intro M v8 v7 v5 v3 v2 v1 hL hp; exact False.elim hp
  | succ n ih =>
    intro M v8 v7 v5 v3 v2 v1 hL hp
    rw [xq_257_48] at hp
    rw [xg_257_48]
    by_cases hz : (M.2.1 163 1) ≤ v8
    · have hp := hp.1 hz
      rw [if_pos hz]
      exact hL
    · have hp := hp.2 hz
      rw [if_neg hz]
      by_cases hz : v7 = v8
      · have hp := hp.1 hz
        rw [if_pos hz]
        exact ih hL  hp
      · have hp := hp.2 hz
        rw [if_neg hz]
        obtain ⟨q6, hp⟩ := hp
        by_cases hz : (xf_241 M v7 v8)
        · have hp := hp.1 hz
          rw [if_pos hz]
          obtain ⟨q8, hp⟩ := hp
          obtain ⟨q9, hp⟩ := hp
          obtain ⟨q10, hp⟩ := hp
          obtain ⟨q11, hp⟩ := hp
          obtain ⟨q12, hp⟩ := hp
          obtain ⟨q13, hp⟩ := hp
          exact ih (xl_245 (hl257 (xl_245 (xl_229 hL q8) q9) q10) q11)  hp
        · have hp := hp.2 hz
          rw [if_neg hz]
          exact ih hL  hp
/-- a loop of RefusedOnceModel.goStay(I)V -/
noncomputable def xg_257_36 (F257 : ro_Mm → Int32 → ro_Mm) : Nat → ro_Mm → Int32 → Int64 → Int64 → Int32 → Int32 → Int32 × Int64 × Int64 × ro_Mm
  | 0, M, v7, v5, v3, v2, v1 => (v7, v5, v3, M)
  | n + 1, M, v7, v5, v3, v2, v1 => (if (M.2.1 163 1) ≤ v7 then (v7, v5, v3, M) else (xg_257_36 F257 n (xg_257_48 F257 lp_N M (0 : Int32) v7 v5 v3 v2 v1).2.2.2 (v7 + (1 : Int32)) (xg_257_48 F257 lp_N M (0 : Int32) v7 v5 v3 v2 v1).2.1 (xg_257_48 F257 lp_N M (0 : Int32) v7 v5 v3 v2 v1).2.2.1 v2 v1))
def xq_257_36 (F257 : ro_Mm → Int32 → ro_Mm) (P257 : ro_Mm → Int32 → Prop) : Nat → ro_Mm → Int32 → Int64 → Int64 → Int32 → Int32 → Prop
  | 0, _, _, _, _, _, _ => False
  | n + 1, M, v7, v5, v3, v2, v1 => (((M.2.1 163 1) ≤ v7 → True) ∧ (¬ ((M.2.1 163 1) ≤ v7) → (xq_257_48 F257 P257 lp_N M (0 : Int32) v7 v5 v3 v2 v1 ∧ (xq_257_36 F257 P257 n (xg_257_48 F257 lp_N M (0 : Int32) v7 v5 v3 v2 v1).2.2.2 (v7 + (1 : Int32)) (xg_257_48 F257 lp_N M (0 : Int32) v7 v5 v3 v2 v1).2.1 (xg_257_48 F257 lp_N M (0 : Int32) v7 v5 v3 v2 v1).2.2.1 v2 v1))))
theorem xt_257_36 {X : ro_Sx} {post : ro_Po} {k : Nat} {F257 : ro_Mm → Int32 → ro_Mm} {P257 : ro_Mm → Int32 → Prop} (hF257 : ∀ {M : ro_Mm} {v1 : Int32}, ro_lay M → P257 M v1 → ro_cwp X k 257 [.ref 163, .int v1] M (fun v M2 => v = none ∧ M2 = (F257 M v1))) (hl257 : ∀ {M : ro_Mm} {v1 : Int32}, ro_lay M → P257 M v1 → ro_lay (F257 M v1)) : ∀ (n : Nat) {M : ro_Mm} {v7 : Int32} {v5 : Int64} {v3 : Int64} {v2 : Int32} {v1 : Int32} (hL : ro_lay M) (hp : xq_257_36 F257 P257 n M v7 v5 v3 v2 v1) (hk : ro_w X (k + 4) 257 post 174 [(7, .int (xg_257_36 F257 n M v7 v5 v3 v2 v1).1), (5, .long (xg_257_36 F257 n M v7 v5 v3 v2 v1).2.1), (3, .long (xg_257_36 F257 n M v7 v5 v3 v2 v1).2.2.1), (2, .int v2), (0, .ref 163), (1, .int v1)] [] (xg_257_36 F257 n M v7 v5 v3 v2 v1).2.2.2 (0, 0)), ro_w X (k + 4) 257 post 36 [(7, .int v7), (5, .long v5), (3, .long v3), (2, .int v2), (0, .ref 163), (1, .int v1)] [] M (0, 0) := by
  intro n
  induction n with
  | zero => intro M v7 v5 v3 v2 v1 hL hp hk; exact False.elim hp
  | succ n ih =>
    intro M v7 v5 v3 v2 v1 hL hp hk
    rw [xq_257_36] at hp
    refine rs_iload ri_257_36 rfl rfl ?_
    refine rs_aload_n ri_257_38 rfl rfl ?_
    refine rs_gf (v := .int (M.2.1 163 1)) ri_257_39 rfl (by decide) (ro_kf (kd_163 hL)) rfl rfl ?_
    refine rs_icmp_ge (t := 174) ri_257_42 rfl rfl (fun h4 => ?_) (fun h4 => ?_)
    · skip
      have e : xg_257_36 F257 (n + 1) M v7 v5 v3 v2 v1 = (v7, v5, v3, M) := by rw [xg_257_36]; first | (simp only [if_pos h4]; done) | rfl
      rw [e] at hk
      exact ro_w_lv (ro_sub_c rfl (ro_sub_c rfl (ro_sub_c rfl (ro_sub_c rfl (ro_sub_c rfl (ro_sub_c rfl (ro_sub_n rfl))))))) hk
    · have hp := hp.2 h4
      refine rs_iconst (v := (0 : Int32)) ri_257_45 rfl (by decide) ?_
      refine rs_istore (lv2 := [(8, .int (0 : Int32)), (7, .int v7), (5, .long v5), (3, .long v3), (2, .int v2), (0, .ref 163), (1, .int v1)]) ri_257_46 rfl rm_257.1 (by decide) rfl ?_
      obtain ⟨q14, hp⟩ := hp
      refine xt_257_48 hF257 hl257 lp_N hL q14 ?_
      refine rs_iinc (v := (v7 + (1 : Int32))) (lv2 := [(7, .int (v7 + (1 : Int32))), (8, .int (xg_257_48 F257 lp_N M (0 : Int32) v7 v5 v3 v2 v1).1), (5, .long (xg_257_48 F257 lp_N M (0 : Int32) v7 v5 v3 v2 v1).2.1), (3, .long (xg_257_48 F257 lp_N M (0 : Int32) v7 v5 v3 v2 v1).2.2.1), (2, .int v2), (0, .ref 163), (1, .int v1)]) ri_257_168 rfl rfl rfl rm_257.1 (by decide) rfl ?_
      refine rs_goto (t := 36) ri_257_171 rfl ?_
      have e : xg_257_36 F257 (n + 1) M v7 v5 v3 v2 v1 = xg_257_36 F257 n (xg_257_48 F257 lp_N M (0 : Int32) v7 v5 v3 v2 v1).2.2.2 (v7 + (1 : Int32)) (xg_257_48 F257 lp_N M (0 : Int32) v7 v5 v3 v2 v1).2.1 (xg_257_48 F257 lp_N M (0 : Int32) v7 v5 v3 v2 v1).2.2.1 v2 v1 := by rw [xg_257_36]; first | (simp only [if_neg h4]; done) | rfl
      rw [e] at hk
      exact ro_w_lv (ro_sub_c rfl (ro_sub_c rfl (ro_sub_c rfl (ro_sub_c rfl (ro_sub_c rfl (ro_sub_c rfl (ro_sub_n rfl))))))) (ih (xl_257_48 hF257 hl257 lp_N hL q14)  hp hk)
theorem xl_257_36 {X : ro_Sx} {k : Nat} {F257 : ro_Mm → Int32 → ro_Mm} {P257 : ro_Mm → Int32 → Prop} (hF257 : ∀ {M : ro_Mm} {v1 : Int32}, ro_lay M → P257 M v1 → ro_cwp X k 257 [.ref 163, .int v1] M (fun v M2 => v = none ∧ M2 = (F257 M v1))) (hl257 : ∀ {M : ro_Mm} {v1 : Int32}, ro_lay M → P257 M v1 → ro_lay (F257 M v1)) : ∀ (n : Nat) {M : ro_Mm} {v7 : Int32} {v5 : Int64} {v3 : Int64} {v2 : Int32} {v1 : Int32} (hL : ro_lay M) (hp : xq_257_36 F257 P257 n M v7 v5 v3 v2 v1), ro_lay (xg_257_36 F257 n M v7 v5 v3 v2 v1).2.2.2 := by
  intro n
  induction n with
  | zero => intro M v7 v5 v3 v2 v1 hL hp; exact False.elim hp
  | succ n ih =>
    intro M v7 v5 v3 v2 v1 hL hp
    rw [xq_257_36] at hp
    rw [xg_257_36]
    by_cases hz : (M.2.1 163 1) ≤ v7
    · have hp := hp.1 hz
      rw [if_pos hz]
      exact hL
    · have hp := hp.2 hz
      rw [if_neg hz]
      obtain ⟨q14, hp⟩ := hp
      exact ih (xl_257_48 hF257 hl257 lp_N hL q14)  hp
/-- RefusedOnceModel.goStay(I)V -/
noncomputable def xmb_257 (F257 : ro_Mm → Int32 → ro_Mm) (M : ro_Mm) (v1 : Int32) : ro_Mm := (if v1 = (0 : Int32) then (ro_sJ (ro_sJ M 163 33 (1 : Int64)) 163 34 (1 : Int64)) else (if (xf_258 M) = (0 : Int32) then (ro_sJ (ro_sJ M 163 33 (1 : Int64)) 163 34 (1 : Int64)) else (ro_sJ (ro_sJ (xg_257_36 F257 lp_N M (0 : Int32) (1 : Int64) (0 : Int64) (xf_258 M) v1).2.2.2 163 33 (xf_254 (xg_257_36 F257 lp_N M (0 : Int32) (1 : Int64) (0 : Int64) (xf_258 M) v1).2.2.2 (xg_257_36 F257 lp_N M (0 : Int32) (1 : Int64) (0 : Int64) (xf_258 M) v1).2.2.1 (((xg_257_36 F257 lp_N M (0 : Int32) (1 : Int64) (0 : Int64) (xf_258 M) v1).2.1 * (12 : Int64)) * ((xf_258 M).toInt64)) (0 : Int32))) 163 34 (xf_254 (ro_sJ (xg_257_36 F257 lp_N M (0 : Int32) (1 : Int64) (0 : Int64) (xf_258 M) v1).2.2.2 163 33 (xf_254 (xg_257_36 F257 lp_N M (0 : Int32) (1 : Int64) (0 : Int64) (xf_258 M) v1).2.2.2 (xg_257_36 F257 lp_N M (0 : Int32) (1 : Int64) (0 : Int64) (xf_258 M) v1).2.2.1 (((xg_257_36 F257 lp_N M (0 : Int32) (1 : Int64) (0 : Int64) (xf_258 M) v1).2.1 * (12 : Int64)) * ((xf_258 M).toInt64)) (0 : Int32))) (xg_257_36 F257 lp_N M (0 : Int32) (1 : Int64) (0 : Int64) (xf_258 M) v1).2.2.1 (((xg_257_36 F257 lp_N M (0 : Int32) (1 : Int64) (0 : Int64) (xf_258 M) v1).2.1 * (12 : Int64)) * ((xf_258 M).toInt64)) (1 : Int32)))))
def xpb_257 (F257 : ro_Mm → Int32 → ro_Mm) (P257 : ro_Mm → Int32 → Prop) (M : ro_Mm) (v1 : Int32) : Prop := ((v1 = (0 : Int32) → True) ∧ (¬ (v1 = (0 : Int32)) → (xp_258 M ∧ (((xf_258 M) = (0 : Int32) → True) ∧ (¬ ((xf_258 M) = (0 : Int32)) → (xq_257_36 F257 P257 lp_N M (0 : Int32) (1 : Int64) (0 : Int64) (xf_258 M) v1 ∧ (xp_254 (xg_257_36 F257 lp_N M (0 : Int32) (1 : Int64) (0 : Int64) (xf_258 M) v1).2.2.2 (xg_257_36 F257 lp_N M (0 : Int32) (1 : Int64) (0 : Int64) (xf_258 M) v1).2.2.1 (((xg_257_36 F257 lp_N M (0 : Int32) (1 : Int64) (0 : Int64) (xf_258 M) v1).2.1 * (12 : Int64)) * ((xf_258 M).toInt64)) (0 : Int32) ∧ (xp_254 (ro_sJ (xg_257_36 F257 lp_N M (0 : Int32) (1 : Int64) (0 : Int64) (xf_258 M) v1).2.2.2 163 33 (xf_254 (xg_257_36 F257 lp_N M (0 : Int32) (1 : Int64) (0 : Int64) (xf_258 M) v1).2.2.2 (xg_257_36 F257 lp_N M (0 : Int32) (1 : Int64) (0 : Int64) (xf_258 M) v1).2.2.1 (((xg_257_36 F257 lp_N M (0 : Int32) (1 : Int64) (0 : Int64) (xf_258 M) v1).2.1 * (12 : Int64)) * ((xf_258 M).toInt64)) (0 : Int32))) (xg_257_36 F257 lp_N M (0 : Int32) (1 : Int64) (0 : Int64) (xf_258 M) v1).2.2.1 (((xg_257_36 F257 lp_N M (0 : Int32) (1 : Int64) (0 : Int64) (xf_258 M) v1).2.1 * (12 : Int64)) * ((xf_258 M).toInt64)) (1 : Int32) ∧ True))))))))
theorem xsb_257 {X : ro_Sx} {k : Nat} {F257 : ro_Mm → Int32 → ro_Mm} {P257 : ro_Mm → Int32 → Prop} (hF257 : ∀ {M : ro_Mm} {v1 : Int32}, ro_lay M → P257 M v1 → ro_cwp X k 257 [.ref 163, .int v1] M (fun v M2 => v = none ∧ M2 = (F257 M v1))) (hl257 : ∀ {M : ro_Mm} {v1 : Int32}, ro_lay M → P257 M v1 → ro_lay (F257 M v1)) {M : ro_Mm} {v1 : Int32} (hL : ro_lay M) (hp : xpb_257 F257 P257 M v1) : ro_cwp X (k + 5) 257 [.ref 163, .int v1] M (fun v M2 => v = none ∧ M2 = xmb_257 F257 M v1) := by
  refine rs_begin (lv0 := [(0, .ref 163), (1, .int v1)]) (by decide) rfl (by rw [rm_257.1]; exact Nat.le_of_ble_eq_true rfl) rfl ?_
  unfold xpb_257 at hp
  refine rs_iload_n ri_257_0 rfl rfl ?_
  refine rs_if_ne (t := 8) ri_257_1 rfl rfl (fun h1 => ?_) (fun h1 => ?_)
  · have hp := hp.2 h1
    refine rs_aload_n ri_257_8 rfl rfl ?_
    obtain ⟨q1, hp⟩ := hp
    refine rs_virt (As := []) (r := []) ri_257_9 rfl (by decide) rm_258.2.2.2 rm_258.2.2.1 rfl rfl rfl (by decide) (ro_kf (kd_163 hL)) (Nat.le_of_ble_eq_true rfl) (by decide) (by omega) (xs_258 (X := X) hL q1) ?_
    rintro _ _ ⟨e1, e2⟩
    rw [e1, e2]
    show ro_w X _ 257 _ 12 [(0, .ref 163), (1, .int v1)] [.int (xf_258 M)] M (0, 0)
    refine rs_istore_n (lv2 := [(2, .int (xf_258 M)), (0, .ref 163), (1, .int v1)]) ri_257_12 rfl rm_257.1 (by decide) rfl ?_
    refine rs_iload_n ri_257_13 rfl rfl ?_
    refine rs_if_ne (t := 28) ri_257_14 rfl rfl (fun h3 => ?_) (fun h3 => ?_)
    · have hp := hp.2 h3
      refine rs_lconst (v := (0 : Int64)) ri_257_28 rfl rfl ?_
      refine rs_lstore_n (lv2 := [(3, .long (0 : Int64)), (2, .int (xf_258 M)), (0, .ref 163), (1, .int v1)]) ri_257_29 rfl rm_257.1 (by decide) rfl ?_
      refine rs_lconst (v := (1 : Int64)) ri_257_30 rfl rfl ?_
      refine rs_lstore (lv2 := [(5, .long (1 : Int64)), (3, .long (0 : Int64)), (2, .int (xf_258 M)), (0, .ref 163), (1, .int v1)]) ri_257_31 rfl rm_257.1 (by decide) rfl ?_
      refine rs_iconst (v := (0 : Int32)) ri_257_33 rfl (by decide) ?_
      refine rs_istore (lv2 := [(7, .int (0 : Int32)), (5, .long (1 : Int64)), (3, .long (0 : Int64)), (2, .int (xf_258 M)), (0, .ref 163), (1, .int v1)]) ri_257_34 rfl rm_257.1 (by decide) rfl ?_
      obtain ⟨q15, hp⟩ := hp
      refine xt_257_36 hF257 hl257 lp_N hL q15 ?_
      refine rs_lload ri_257_174 rfl rfl ?_
      refine rs_ldc2 (v := (12 : Int64)) ri_257_176 rfl rfl rfl ?_
      refine rs_lmul (r := ((xg_257_36 F257 lp_N M (0 : Int32) (1 : Int64) (0 : Int64) (xf_258 M) v1).2.1 * (12 : Int64))) ri_257_179 rfl rfl ?_
      refine rs_iload_n ri_257_180 rfl rfl ?_
      refine rs_i2l (r := ((xf_258 M).toInt64)) ri_257_181 rfl rfl ?_
      refine rs_lmul (r := (((xg_257_36 F257 lp_N M (0 : Int32) (1 : Int64) (0 : Int64) (xf_258 M) v1).2.1 * (12 : Int64)) * ((xf_258 M).toInt64))) ri_257_182 rfl rfl ?_
      refine rs_lstore (lv2 := [(7, .long (((xg_257_36 F257 lp_N M (0 : Int32) (1 : Int64) (0 : Int64) (xf_258 M) v1).2.1 * (12 : Int64)) * ((xf_258 M).toInt64))), (5, .long (xg_257_36 F257 lp_N M (0 : Int32) (1 : Int64) (0 : Int64) (xf_258 M) v1).2.1), (3, .long (xg_257_36 F257 lp_N M (0 : Int32) (1 : Int64) (0 : Int64) (xf_258 M) v1).2.2.1), (2, .int (xf_258 M)), (0, .ref 163), (1, .int v1)]) ri_257_183 rfl rm_257.1 (by decide) rfl ?_
      refine rs_aload_n ri_257_185 rfl rfl ?_
      refine rs_lload_n ri_257_186 rfl rfl ?_
      refine rs_lload ri_257_187 rfl rfl ?_
      refine rs_iconst (v := (0 : Int32)) ri_257_189 rfl (by decide) ?_
      obtain ⟨q16, hp⟩ := hp
      refine rs_stat (As := [.long (xg_257_36 F257 lp_N M (0 : Int32) (1 : Int64) (0 : Int64) (xf_258 M) v1).2.2.1, .long (((xg_257_36 F257 lp_N M (0 : Int32) (1 : Int64) (0 : Int64) (xf_258 M) v1).2.1 * (12 : Int64)) * ((xf_258 M).toInt64)), .int (0 : Int32)]) (r := [.ref 163]) ri_257_190 rfl rm_254.2.2.2 rfl rfl rfl (Nat.le_of_ble_eq_true rfl) (by decide) (by omega) (xs_254 (X := X) (xl_257_36 hF257 hl257 lp_N hL q15) q16) ?_
      rintro _ _ ⟨e1, e2⟩
      rw [e1, e2]
      show ro_w X _ 257 _ 193 [(7, .long (((xg_257_36 F257 lp_N M (0 : Int32) (1 : Int64) (0 : Int64) (xf_258 M) v1).2.1 * (12 : Int64)) * ((xf_258 M).toInt64))), (5, .long (xg_257_36 F257 lp_N M (0 : Int32) (1 : Int64) (0 : Int64) (xf_258 M) v1).2.1), (3, .long (xg_257_36 F257 lp_N M (0 : Int32) (1 : Int64) (0 : Int64) (xf_258 M) v1).2.2.1), (2, .int (xf_258 M)), (0, .ref 163), (1, .int v1)] [.long (xf_254 (xg_257_36 F257 lp_N M (0 : Int32) (1 : Int64) (0 : Int64) (xf_258 M) v1).2.2.2 (xg_257_36 F257 lp_N M (0 : Int32) (1 : Int64) (0 : Int64) (xf_258 M) v1).2.2.1 (((xg_257_36 F257 lp_N M (0 : Int32) (1 : Int64) (0 : Int64) (xf_258 M) v1).2.1 * (12 : Int64)) * ((xf_258 M).toInt64)) (0 : Int32)), .ref 163] (xg_257_36 F257 lp_N M (0 : Int32) (1 : Int64) (0 : Int64) (xf_258 M) v1).2.2.2 (0, 0)
      refine rs_pf (M2 := (ro_sJ (xg_257_36 F257 lp_N M (0 : Int32) (1 : Int64) (0 : Int64) (xf_258 M) v1).2.2.2 163 33 (xf_254 (xg_257_36 F257 lp_N M (0 : Int32) (1 : Int64) (0 : Int64) (xf_258 M) v1).2.2.2 (xg_257_36 F257 lp_N M (0 : Int32) (1 : Int64) (0 : Int64) (xf_258 M) v1).2.2.1 (((xg_257_36 F257 lp_N M (0 : Int32) (1 : Int64) (0 : Int64) (xf_258 M) v1).2.1 * (12 : Int64)) * ((xf_258 M).toInt64)) (0 : Int32)))) ri_257_193 rfl (by decide) (ro_kf (kd_163 (xl_257_36 hF257 hl257 lp_N hL q15))) (fun h => absurd h (by decide)) (fun f h => h) ?_
      refine rs_aload_n ri_257_196 rfl rfl ?_
      refine rs_lload_n ri_257_197 rfl rfl ?_
      refine rs_lload ri_257_198 rfl rfl ?_
      refine rs_iconst (v := (1 : Int32)) ri_257_200 rfl (by decide) ?_
      obtain ⟨q17, hp⟩ := hp
      refine rs_stat (As := [.long (xg_257_36 F257 lp_N M (0 : Int32) (1 : Int64) (0 : Int64) (xf_258 M) v1).2.2.1, .long (((xg_257_36 F257 lp_N M (0 : Int32) (1 : Int64) (0 : Int64) (xf_258 M) v1).2.1 * (12 : Int64)) * ((xf_258 M).toInt64)), .int (1 : Int32)]) (r := [.ref 163]) ri_257_201 rfl rm_254.2.2.2 rfl rfl rfl (Nat.le_of_ble_eq_true rfl) (by decide) (by omega) (xs_254 (X := X) (xl_257_36 hF257 hl257 lp_N hL q15) q17) ?_
      rintro _ _ ⟨e1, e2⟩
      rw [e1, e2]
      show ro_w X _ 257 _ 204 [(7, .long (((xg_257_36 F257 lp_N M (0 : Int32) (1 : Int64) (0 : Int64) (xf_258 M) v1).2.1 * (12 : Int64)) * ((xf_258 M).toInt64))), (5, .long (xg_257_36 F257 lp_N M (0 : Int32) (1 : Int64) (0 : Int64) (xf_258 M) v1).2.1), (3, .long (xg_257_36 F257 lp_N M (0 : Int32) (1 : Int64) (0 : Int64) (xf_258 M) v1).2.2.1), (2, .int (xf_258 M)), (0, .ref 163), (1, .int v1)] [.long (xf_254 (ro_sJ (xg_257_36 F257 lp_N M (0 : Int32) (1 : Int64) (0 : Int64) (xf_258 M) v1).2.2.2 163 33 (xf_254 (xg_257_36 F257 lp_N M (0 : Int32) (1 : Int64) (0 : Int64) (xf_258 M) v1).2.2.2 (xg_257_36 F257 lp_N M (0 : Int32) (1 : Int64) (0 : Int64) (xf_258 M) v1).2.2.1 (((xg_257_36 F257 lp_N M (0 : Int32) (1 : Int64) (0 : Int64) (xf_258 M) v1).2.1 * (12 : Int64)) * ((xf_258 M).toInt64)) (0 : Int32))) (xg_257_36 F257 lp_N M (0 : Int32) (1 : Int64) (0 : Int64) (xf_258 M) v1).2.2.1 (((xg_257_36 F257 lp_N M (0 : Int32) (1 : Int64) (0 : Int64) (xf_258 M) v1).2.1 * (12 : Int64)) * ((xf_258 M).toInt64)) (1 : Int32)), .ref 163] (ro_sJ (xg_257_36 F257 lp_N M (0 : Int32) (1 : Int64) (0 : Int64) (xf_258 M) v1).2.2.2 163 33 (xf_254 (xg_257_36 F257 lp_N M (0 : Int32) (1 : Int64) (0 : Int64) (xf_258 M) v1).2.2.2 (xg_257_36 F257 lp_N M (0 : Int32) (1 : Int64) (0 : Int64) (xf_258 M) v1).2.2.1 (((xg_257_36 F257 lp_N M (0 : Int32) (1 : Int64) (0 : Int64) (xf_258 M) v1).2.1 * (12 : Int64)) * ((xf_258 M).toInt64)) (0 : Int32))) (0, 0)
      refine rs_pf (M2 := (ro_sJ (ro_sJ (xg_257_36 F257 lp_N M (0 : Int32) (1 : Int64) (0 : Int64) (xf_258 M) v1).2.2.2 163 33 (xf_254 (xg_257_36 F257 lp_N M (0 : Int32) (1 : Int64) (0 : Int64) (xf_258 M) v1).2.2.2 (xg_257_36 F257 lp_N M (0 : Int32) (1 : Int64) (0 : Int64) (xf_258 M) v1).2.2.1 (((xg_257_36 F257 lp_N M (0 : Int32) (1 : Int64) (0 : Int64) (xf_258 M) v1).2.1 * (12 : Int64)) * ((xf_258 M).toInt64)) (0 : Int32))) 163 34 (xf_254 (ro_sJ (xg_257_36 F257 lp_N M (0 : Int32) (1 : Int64) (0 : Int64) (xf_258 M) v1).2.2.2 163 33 (xf_254 (xg_257_36 F257 lp_N M (0 : Int32) (1 : Int64) (0 : Int64) (xf_258 M) v1).2.2.2 (xg_257_36 F257 lp_N M (0 : Int32) (1 : Int64) (0 : Int64) (xf_258 M) v1).2.2.1 (((xg_257_36 F257 lp_N M (0 : Int32) (1 : Int64) (0 : Int64) (xf_258 M) v1).2.1 * (12 : Int64)) * ((xf_258 M).toInt64)) (0 : Int32))) (xg_257_36 F257 lp_N M (0 : Int32) (1 : Int64) (0 : Int64) (xf_258 M) v1).2.2.1 (((xg_257_36 F257 lp_N M (0 : Int32) (1 : Int64) (0 : Int64) (xf_258 M) v1).2.1 * (12 : Int64)) * ((xf_258 M).toInt64)) (1 : Int32)))) ri_257_204 rfl (by decide) (ro_kf (kd_163 (xl_257_36 hF257 hl257 lp_N hL q15))) (fun h => absurd h (by decide)) (fun f h => h) ?_
      refine rs_ret ri_257_207 rm_257.2.1 (by decide) ?_
      exact ⟨by rfl, by unfold xmb_257; first | (simp only [if_neg h1, if_neg h3]; done) | rfl⟩
    · have hp := hp.1 h3
      refine rs_aload_n ri_257_17 rfl rfl ?_
      refine rs_lconst (v := (1 : Int64)) ri_257_18 rfl rfl ?_
      refine rs_pf (M2 := (ro_sJ M 163 33 (1 : Int64))) ri_257_19 rfl (by decide) (ro_kf (kd_163 hL)) (fun h => absurd h (by decide)) (fun f h => h) ?_
      refine rs_aload_n ri_257_22 rfl rfl ?_
      refine rs_lconst (v := (1 : Int64)) ri_257_23 rfl rfl ?_
      refine rs_pf (M2 := (ro_sJ (ro_sJ M 163 33 (1 : Int64)) 163 34 (1 : Int64))) ri_257_24 rfl (by decide) (ro_kf (kd_163 hL)) (fun h => absurd h (by decide)) (fun f h => h) ?_
      refine rs_ret ri_257_27 rm_257.2.1 (by decide) ?_
      exact ⟨by rfl, by unfold xmb_257; first | (simp only [if_neg h1, if_pos h3]; done) | rfl⟩
  · have hp := hp.1 h1
    refine rs_iconst (v := (0 : Int32)) ri_257_4 rfl (by decide) ?_
    refine rs_goto (t := 12) ri_257_5 rfl ?_
    refine rs_istore_n (lv2 := [(2, .int (0 : Int32)), (0, .ref 163), (1, .int v1)]) ri_257_12 rfl rm_257.1 (by decide) rfl ?_
    refine rs_iload_n ri_257_13 rfl rfl ?_
    refine rs_if_ne (t := 28) ri_257_14 rfl rfl (fun h19 => absurd (by decide) h19) (fun h19 => ?_)
    refine rs_aload_n ri_257_17 rfl rfl ?_
    refine rs_lconst (v := (1 : Int64)) ri_257_18 rfl rfl ?_
    refine rs_pf (M2 := (ro_sJ M 163 33 (1 : Int64))) ri_257_19 rfl (by decide) (ro_kf (kd_163 hL)) (fun h => absurd h (by decide)) (fun f h => h) ?_
    refine rs_aload_n ri_257_22 rfl rfl ?_
    refine rs_lconst (v := (1 : Int64)) ri_257_23 rfl rfl ?_
    refine rs_pf (M2 := (ro_sJ (ro_sJ M 163 33 (1 : Int64)) 163 34 (1 : Int64))) ri_257_24 rfl (by decide) (ro_kf (kd_163 hL)) (fun h => absurd h (by decide)) (fun f h => h) ?_
    refine rs_ret ri_257_27 rm_257.2.1 (by decide) ?_
    exact ⟨by rfl, by unfold xmb_257; first | (simp only [if_pos h1]; done) | rfl⟩
theorem xlb_257 {X : ro_Sx} {k : Nat} {F257 : ro_Mm → Int32 → ro_Mm} {P257 : ro_Mm → Int32 → Prop} (hF257 : ∀ {M : ro_Mm} {v1 : Int32}, ro_lay M → P257 M v1 → ro_cwp X k 257 [.ref 163, .int v1] M (fun v M2 => v = none ∧ M2 = (F257 M v1))) (hl257 : ∀ {M : ro_Mm} {v1 : Int32}, ro_lay M → P257 M v1 → ro_lay (F257 M v1)) {M : ro_Mm} {v1 : Int32} (hL : ro_lay M) (hp : xpb_257 F257 P257 M v1) : ro_lay (xmb_257 F257 M v1) := by
  unfold xpb_257 at hp
  unfold xmb_257
  by_cases hz : v1 = (0 : Int32)
  · have hp := hp.1 hz
    rw [if_pos hz]
    first | exact hL | (have hl := hL; exact hl)
  · have hp := hp.2 hz
    rw [if_neg hz]
    obtain ⟨q1, hp⟩ := hp
    by_cases hz : (xf_258 M) = (0 : Int32)
    · have hp := hp.1 hz
      rw [if_pos hz]
      first | exact hL | (have hl := hL; exact hl)
    · have hp := hp.2 hz
      rw [if_neg hz]
      obtain ⟨q15, hp⟩ := hp
      obtain ⟨q16, hp⟩ := hp
      obtain ⟨q17, hp⟩ := hp
      first | exact (xl_257_36 hF257 hl257 lp_N hL q15) | (have hl := (xl_257_36 hF257 hl257 lp_N hL q15); exact hl)
noncomputable def xr_sty : Nat → (ro_Mm → Int32 → ro_Mm)
  | 0 => fun M v1 => M
  | n + 1 => fun M v1 => (xmb_257 (xr_sty n) M v1)
def xpr_sty : Nat → (ro_Mm → Int32 → Prop)
  | 0 => fun _ _ => False
  | n + 1 => fun M v1 => xpb_257 (xr_sty n) (xpr_sty n) M v1
theorem xsr_sty {X : ro_Sx} : ∀ n : Nat, (∀ {M : ro_Mm} {v1 : Int32}, ro_lay M → xpr_sty n M v1 → ro_cwp X (7 * n) 257 [.ref 163, .int v1] M (fun v M2 => v = none ∧ M2 = (xr_sty n M v1))) ∧ (∀ {M : ro_Mm} {v1 : Int32}, ro_lay M → xpr_sty n M v1 → ro_lay (xr_sty n M v1)) := by
  intro n
  induction n with
  | zero => exact ⟨fun _ hp => False.elim hp, fun _ hp => False.elim hp⟩
  | succ n ih =>
    obtain ⟨f257, l257⟩ := ih
    refine ⟨?_, ?_⟩
    · intro M v1 hL hp
      exact ro_cwp_up (by omega) (fun _ _ h => h) (xsb_257 f257 l257 hL hp)
    · intro M v1 hL hp
      exact xlb_257 (X := X) f257 l257 hL hp
noncomputable def xm_257 (M : ro_Mm) (v1 : Int32) : ro_Mm := (xr_sty rc_N M v1)
def xp_257 (M : ro_Mm) (v1 : Int32) : Prop := xpr_sty rc_N M v1
theorem xs_257 {X : ro_Sx} {M : ro_Mm} {v1 : Int32} (hL : ro_lay M) (hp : xp_257 M v1) : ro_cwp X 700 257 [.ref 163, .int v1] M (fun v M2 => v = none ∧ M2 = xm_257 M v1) :=
  ro_cwp_up (by rw [rc_N_eq]; exact Nat.le_refl _) (fun _ _ h => h) ((xsr_sty (X := X) rc_N).1 hL hp)
theorem xl_257 {M : ro_Mm} {v1 : Int32} (hL : ro_lay M) (hp : xp_257 M v1) : ro_lay (xm_257 M v1) := (xsr_sty (X := (0, fun _ => 0)) rc_N).2 hL hp
/-- RefusedOnceModel.behind(III)I -/
noncomputable def xf_268 (M : ro_Mm) (v1 : Int32) (v2 : Int32) (v3 : Int32) : Int32 := (if (xf_198 M v1) then (if (xf_198 M v2) then (if (xf_195 M v3 (0 : Int32) (3 : Int32)) then (if (0 : Int32) ≤ (xf_235 M v1) then (if (0 : Int32) ≤ (xf_235 M v2) then (if v3 = (0 : Int32) then ((xm_269 (xm_228 (ro_sI (ro_sI (ro_sI (ro_sI (ro_sI (ro_sI (ro_sI M 163 35 v1) 163 36 v2) 163 37 (xf_237 (ro_sI (ro_sI M 163 35 v1) 163 36 v2) v1 (20 : Int32))) 163 38 (0 : Int32)) 163 39 (-2 : Int32)) 163 40 (-2 : Int32)) 163 41 (-1 : Int32))) (0 : Int32) (0 : Int32)).2.1 163 38) else (if v3 = (1 : Int32) then ((xm_269 (xm_228 (ro_sI (ro_sI (ro_sI (ro_sI (ro_sI (ro_sI (ro_sI M 163 35 v1) 163 36 v2) 163 37 (xf_237 (ro_sI (ro_sI M 163 35 v1) 163 36 v2) v1 (20 : Int32))) 163 38 (0 : Int32)) 163 39 (-2 : Int32)) 163 40 (-2 : Int32)) 163 41 (-1 : Int32))) (0 : Int32) (0 : Int32)).2.1 163 39) else (if v3 = (2 : Int32) then ((xm_269 (xm_228 (ro_sI (ro_sI (ro_sI (ro_sI (ro_sI (ro_sI (ro_sI M 163 35 v1) 163 36 v2) 163 37 (xf_237 (ro_sI (ro_sI M 163 35 v1) 163 36 v2) v1 (20 : Int32))) 163 38 (0 : Int32)) 163 39 (-2 : Int32)) 163 40 (-2 : Int32)) 163 41 (-1 : Int32))) (0 : Int32) (0 : Int32)).2.1 163 40) else (if ((xm_269 (xm_228 (ro_sI (ro_sI (ro_sI (ro_sI (ro_sI (ro_sI (ro_sI M 163 35 v1) 163 36 v2) 163 37 (xf_237 (ro_sI (ro_sI M 163 35 v1) 163 36 v2) v1 (20 : Int32))) 163 38 (0 : Int32)) 163 39 (-2 : Int32)) 163 40 (-2 : Int32)) 163 41 (-1 : Int32))) (0 : Int32) (0 : Int32)).2.1 163 38) = (0 : Int32) then (0 : Int32) else ((xm_269 (xm_228 (ro_sI (ro_sI (ro_sI (ro_sI (ro_sI (ro_sI (ro_sI M 163 35 v1) 163 36 v2) 163 37 (xf_237 (ro_sI (ro_sI M 163 35 v1) 163 36 v2) v1 (20 : Int32))) 163 38 (0 : Int32)) 163 39 (-2 : Int32)) 163 40 (-2 : Int32)) 163 41 (-1 : Int32))) (0 : Int32) (0 : Int32)).2.1 163 41))))) else (xf_235 M v2)) else (xf_235 M v1)) else (-1 : Int32)) else (-1 : Int32)) else (-1 : Int32))
noncomputable def xm_268 (M : ro_Mm) (v1 : Int32) (v2 : Int32) (v3 : Int32) : ro_Mm := (if (xf_198 M v1) then (if (xf_198 M v2) then (if (xf_195 M v3 (0 : Int32) (3 : Int32)) then (if (0 : Int32) ≤ (xf_235 M v1) then (if (0 : Int32) ≤ (xf_235 M v2) then (xm_269 (xm_228 (ro_sI (ro_sI (ro_sI (ro_sI (ro_sI (ro_sI (ro_sI M 163 35 v1) 163 36 v2) 163 37 (xf_237 (ro_sI (ro_sI M 163 35 v1) 163 36 v2) v1 (20 : Int32))) 163 38 (0 : Int32)) 163 39 (-2 : Int32)) 163 40 (-2 : Int32)) 163 41 (-1 : Int32))) (0 : Int32) (0 : Int32)) else M) else M) else M) else M) else M)
def xp_268 (M : ro_Mm) (v1 : Int32) (v2 : Int32) (v3 : Int32) : Prop := (((xf_198 M v1) → (((xf_198 M v2) → (((xf_195 M v3 (0 : Int32) (3 : Int32)) → (xp_235 M v1 ∧ (((0 : Int32) ≤ (xf_235 M v1) → (xp_235 M v2 ∧ (((0 : Int32) ≤ (xf_235 M v2) → (xp_237 (ro_sI (ro_sI M 163 35 v1) 163 36 v2) v1 (20 : Int32) ∧ (xp_228 (ro_sI (ro_sI (ro_sI (ro_sI (ro_sI (ro_sI (ro_sI M 163 35 v1) 163 36 v2) 163 37 (xf_237 (ro_sI (ro_sI M 163 35 v1) 163 36 v2) v1 (20 : Int32))) 163 38 (0 : Int32)) 163 39 (-2 : Int32)) 163 40 (-2 : Int32)) 163 41 (-1 : Int32)) ∧ (xp_269 (xm_228 (ro_sI (ro_sI (ro_sI (ro_sI (ro_sI (ro_sI (ro_sI M 163 35 v1) 163 36 v2) 163 37 (xf_237 (ro_sI (ro_sI M 163 35 v1) 163 36 v2) v1 (20 : Int32))) 163 38 (0 : Int32)) 163 39 (-2 : Int32)) 163 40 (-2 : Int32)) 163 41 (-1 : Int32))) (0 : Int32) (0 : Int32) ∧ True)))) ∧ (¬ ((0 : Int32) ≤ (xf_235 M v2)) → (xp_235 M v2 ∧ True))))) ∧ (¬ ((0 : Int32) ≤ (xf_235 M v1)) → (xp_235 M v1 ∧ True))))) ∧ (¬ ((xf_195 M v3 (0 : Int32) (3 : Int32))) → True))) ∧ (¬ ((xf_198 M v2)) → True))) ∧ (¬ ((xf_198 M v1)) → True))
theorem xs_268 {X : ro_Sx} {M : ro_Mm} {v1 : Int32} {v2 : Int32} {v3 : Int32} (hL : ro_lay M) (hp : xp_268 M v1 v2 v3) : ro_cwp X 401 268 [.ref 163, .int v1, .int v2, .int v3] M (fun v M2 => v = some (.int (xf_268 M v1 v2 v3)) ∧ M2 = xm_268 M v1 v2 v3) := by
  refine rs_begin (lv0 := [(0, .ref 163), (1, .int v1), (2, .int v2), (3, .int v3)]) (by decide) rfl (by rw [rm_268.1]; exact Nat.le_of_ble_eq_true rfl) rfl ?_
  unfold xp_268 at hp
  refine rs_iload_n ri_268_0 rfl rfl ?_
  refine rs_stat (As := [.int v1]) (r := []) ri_268_1 rfl rm_198.2.2.2 rfl rfl rfl (Nat.le_of_ble_eq_true rfl) (by decide) (by decide) (xs_198 (X := X) hL) ?_
  rintro _ _ ⟨e1, e2⟩
  rw [e1, e2]
  show ro_w X _ 268 _ 4 [(0, .ref 163), (1, .int v1), (2, .int v2), (3, .int v3)] [.int (ro_b (xf_198 M v1))] M (0, 0)
  refine rs_ifeq_c (t := 23) ri_268_4 rfl rfl (fun h1 => ?_) (fun h1 => ?_)
  · have hp := hp.2 h1
    refine rs_iconst (v := (-1 : Int32)) ri_268_23 rfl (by decide) ?_
    refine rs_iret ri_268_24 rm_268.2.1 (by decide) ?_
    exact ⟨by unfold xf_268; first | (simp only [if_neg h1]; done) | rfl, by unfold xm_268; first | (simp only [if_neg h1]; done) | rfl⟩
  · have hp := hp.1 h1
    refine rs_iload_n ri_268_7 rfl rfl ?_
    refine rs_stat (As := [.int v2]) (r := []) ri_268_8 rfl rm_198.2.2.2 rfl rfl rfl (Nat.le_of_ble_eq_true rfl) (by decide) (by decide) (xs_198 (X := X) hL) ?_
    rintro _ _ ⟨e1, e2⟩
    rw [e1, e2]
    show ro_w X _ 268 _ 11 [(0, .ref 163), (1, .int v1), (2, .int v2), (3, .int v3)] [.int (ro_b (xf_198 M v2))] M (0, 0)
    refine rs_ifeq_c (t := 23) ri_268_11 rfl rfl (fun h2 => ?_) (fun h2 => ?_)
    · have hp := hp.2 h2
      refine rs_iconst (v := (-1 : Int32)) ri_268_23 rfl (by decide) ?_
      refine rs_iret ri_268_24 rm_268.2.1 (by decide) ?_
      exact ⟨by unfold xf_268; first | (simp only [if_pos h1, if_neg h2]; done) | rfl, by unfold xm_268; first | (simp only [if_pos h1, if_neg h2]; done) | rfl⟩
    · have hp := hp.1 h2
      refine rs_iload_n ri_268_14 rfl rfl ?_
      refine rs_iconst (v := (0 : Int32)) ri_268_15 rfl (by decide) ?_
      refine rs_iconst (v := (3 : Int32)) ri_268_16 rfl (by decide) ?_
      refine rs_stat (As := [.int v3, .int (0 : Int32), .int (3 : Int32)]) (r := []) ri_268_17 rfl rm_195.2.2.2 rfl rfl rfl (Nat.le_of_ble_eq_true rfl) (by decide) (by decide) (xs_195 (X := X) hL) ?_
      rintro _ _ ⟨e1, e2⟩
      rw [e1, e2]
      show ro_w X _ 268 _ 20 [(0, .ref 163), (1, .int v1), (2, .int v2), (3, .int v3)] [.int (ro_b (xf_195 M v3 (0 : Int32) (3 : Int32)))] M (0, 0)
      refine rs_ifne_c (t := 25) ri_268_20 rfl rfl (fun h3 => ?_) (fun h3 => ?_)
      · have hp := hp.1 h3
        refine rs_aload_n ri_268_25 rfl rfl ?_
        refine rs_iload_n ri_268_26 rfl rfl ?_
        obtain ⟨q3, hp⟩ := hp
        refine rs_virt (As := [.int v1]) (r := []) ri_268_27 rfl (by decide) rm_235.2.2.2 rm_235.2.2.1 rfl rfl rfl (by decide) (ro_kf (kd_163 hL)) (Nat.le_of_ble_eq_true rfl) (by decide) (by decide) (xs_235 (X := X) hL q3) ?_
        rintro _ _ ⟨e1, e2⟩
        rw [e1, e2]
        show ro_w X _ 268 _ 30 [(0, .ref 163), (1, .int v1), (2, .int v2), (3, .int v3)] [.int (xf_235 M v1)] M (0, 0)
        refine rs_if_ge (t := 39) ri_268_30 rfl rfl (fun h5 => ?_) (fun h5 => ?_)
        · have hp := hp.1 h5
          refine rs_aload_n ri_268_39 rfl rfl ?_
          refine rs_iload_n ri_268_40 rfl rfl ?_
          obtain ⟨q5, hp⟩ := hp
          refine rs_virt (As := [.int v2]) (r := []) ri_268_41 rfl (by decide) rm_235.2.2.2 rm_235.2.2.1 rfl rfl rfl (by decide) (ro_kf (kd_163 hL)) (Nat.le_of_ble_eq_true rfl) (by decide) (by decide) (xs_235 (X := X) hL q5) ?_
          rintro _ _ ⟨e1, e2⟩
          rw [e1, e2]
          show ro_w X _ 268 _ 44 [(0, .ref 163), (1, .int v1), (2, .int v2), (3, .int v3)] [.int (xf_235 M v2)] M (0, 0)
          refine rs_if_ge (t := 53) ri_268_44 rfl rfl (fun h7 => ?_) (fun h7 => ?_)
          · have hp := hp.1 h7
            refine rs_aload_n ri_268_53 rfl rfl ?_
            refine rs_iload_n ri_268_54 rfl rfl ?_
            refine rs_pf (M2 := (ro_sI M 163 35 v1)) ri_268_55 rfl (by decide) (ro_kf (kd_163 hL)) (fun h => absurd h (by decide)) (fun f h => h) ?_
            refine rs_aload_n ri_268_58 rfl rfl ?_
            refine rs_iload_n ri_268_59 rfl rfl ?_
            refine rs_pf (M2 := (ro_sI (ro_sI M 163 35 v1) 163 36 v2)) ri_268_60 rfl (by decide) (ro_kf (kd_163 hL)) (fun h => absurd h (by decide)) (fun f h => h) ?_
            refine rs_aload_n ri_268_63 rfl rfl ?_
            refine rs_aload_n ri_268_64 rfl rfl ?_
            refine rs_iload_n ri_268_65 rfl rfl ?_
            refine rs_bipush (v := (20 : Int32)) ri_268_66 rfl (by decide) ?_
            obtain ⟨q7, hp⟩ := hp
            refine rs_virt (As := [.int v1, .int (20 : Int32)]) (r := [.ref 163]) ri_268_68 rfl (by decide) rm_237.2.2.2 rm_237.2.2.1 rfl rfl rfl (by decide) (ro_kf (kd_163 hL)) (Nat.le_of_ble_eq_true rfl) (by decide) (by decide) (xs_237 (X := X) hL q7) ?_
            rintro _ _ ⟨e1, e2⟩
            rw [e1, e2]
            show ro_w X _ 268 _ 71 [(0, .ref 163), (1, .int v1), (2, .int v2), (3, .int v3)] [.int (xf_237 (ro_sI (ro_sI M 163 35 v1) 163 36 v2) v1 (20 : Int32)), .ref 163] (ro_sI (ro_sI M 163 35 v1) 163 36 v2) (0, 0)
            refine rs_pf (M2 := (ro_sI (ro_sI (ro_sI M 163 35 v1) 163 36 v2) 163 37 (xf_237 (ro_sI (ro_sI M 163 35 v1) 163 36 v2) v1 (20 : Int32)))) ri_268_71 rfl (by decide) (ro_kf (kd_163 hL)) (fun h => absurd h (by decide)) (fun f h => h) ?_
            refine rs_aload_n ri_268_74 rfl rfl ?_
            refine rs_iconst (v := (0 : Int32)) ri_268_75 rfl (by decide) ?_
            refine rs_pf (M2 := (ro_sI (ro_sI (ro_sI (ro_sI M 163 35 v1) 163 36 v2) 163 37 (xf_237 (ro_sI (ro_sI M 163 35 v1) 163 36 v2) v1 (20 : Int32))) 163 38 (0 : Int32))) ri_268_76 rfl (by decide) (ro_kf (kd_163 hL)) (fun h => absurd h (by decide)) (fun f h => h) ?_
            refine rs_aload_n ri_268_79 rfl rfl ?_
            refine rs_bipush (v := (-2 : Int32)) ri_268_80 rfl (by decide) ?_
            refine rs_pf (M2 := (ro_sI (ro_sI (ro_sI (ro_sI (ro_sI M 163 35 v1) 163 36 v2) 163 37 (xf_237 (ro_sI (ro_sI M 163 35 v1) 163 36 v2) v1 (20 : Int32))) 163 38 (0 : Int32)) 163 39 (-2 : Int32))) ri_268_82 rfl (by decide) (ro_kf (kd_163 hL)) (fun h => absurd h (by decide)) (fun f h => h) ?_
            refine rs_aload_n ri_268_85 rfl rfl ?_
            refine rs_bipush (v := (-2 : Int32)) ri_268_86 rfl (by decide) ?_
            refine rs_pf (M2 := (ro_sI (ro_sI (ro_sI (ro_sI (ro_sI (ro_sI M 163 35 v1) 163 36 v2) 163 37 (xf_237 (ro_sI (ro_sI M 163 35 v1) 163 36 v2) v1 (20 : Int32))) 163 38 (0 : Int32)) 163 39 (-2 : Int32)) 163 40 (-2 : Int32))) ri_268_88 rfl (by decide) (ro_kf (kd_163 hL)) (fun h => absurd h (by decide)) (fun f h => h) ?_
            refine rs_aload_n ri_268_91 rfl rfl ?_
            refine rs_iconst (v := (-1 : Int32)) ri_268_92 rfl (by decide) ?_
            refine rs_pf (M2 := (ro_sI (ro_sI (ro_sI (ro_sI (ro_sI (ro_sI (ro_sI M 163 35 v1) 163 36 v2) 163 37 (xf_237 (ro_sI (ro_sI M 163 35 v1) 163 36 v2) v1 (20 : Int32))) 163 38 (0 : Int32)) 163 39 (-2 : Int32)) 163 40 (-2 : Int32)) 163 41 (-1 : Int32))) ri_268_93 rfl (by decide) (ro_kf (kd_163 hL)) (fun h => absurd h (by decide)) (fun f h => h) ?_
            refine rs_aload_n ri_268_96 rfl rfl ?_
            obtain ⟨q8, hp⟩ := hp
            refine rs_virt (As := []) (r := []) ri_268_97 rfl (by decide) rm_228.2.2.2 rm_228.2.2.1 rfl rfl rfl (by decide) (ro_kf (kd_163 hL)) (Nat.le_of_ble_eq_true rfl) (by decide) (by decide) (xs_228 (X := X) hL q8) ?_
            rintro _ _ ⟨e1, e2⟩
            rw [e1, e2]
            show ro_w X _ 268 _ 100 [(0, .ref 163), (1, .int v1), (2, .int v2), (3, .int v3)] [] (xm_228 (ro_sI (ro_sI (ro_sI (ro_sI (ro_sI (ro_sI (ro_sI M 163 35 v1) 163 36 v2) 163 37 (xf_237 (ro_sI (ro_sI M 163 35 v1) 163 36 v2) v1 (20 : Int32))) 163 38 (0 : Int32)) 163 39 (-2 : Int32)) 163 40 (-2 : Int32)) 163 41 (-1 : Int32))) (0, 0)
            refine rs_aload_n ri_268_100 rfl rfl ?_
            refine rs_iconst (v := (0 : Int32)) ri_268_101 rfl (by decide) ?_
            refine rs_iconst (v := (0 : Int32)) ri_268_102 rfl (by decide) ?_
            obtain ⟨q9, hp⟩ := hp
            refine rs_virt (As := [.int (0 : Int32), .int (0 : Int32)]) (r := []) ri_268_103 rfl (by decide) rm_269.2.2.2 rm_269.2.2.1 rfl rfl rfl (by decide) (ro_kf (kd_163 (xl_228 hL q8))) (Nat.le_of_ble_eq_true rfl) (by decide) (by decide) (xs_269 (X := X) (xl_228 hL q8) q9) ?_
            rintro _ _ ⟨e1, e2⟩
            rw [e1, e2]
            show ro_w X _ 268 _ 106 [(0, .ref 163), (1, .int v1), (2, .int v2), (3, .int v3)] [] (xm_269 (xm_228 (ro_sI (ro_sI (ro_sI (ro_sI (ro_sI (ro_sI (ro_sI M 163 35 v1) 163 36 v2) 163 37 (xf_237 (ro_sI (ro_sI M 163 35 v1) 163 36 v2) v1 (20 : Int32))) 163 38 (0 : Int32)) 163 39 (-2 : Int32)) 163 40 (-2 : Int32)) 163 41 (-1 : Int32))) (0 : Int32) (0 : Int32)) (0, 0)
            refine rs_iload_n ri_268_106 rfl rfl ?_
            by_cases h11 : v3 = (0 : Int32)
            · skip
              refine rs_swIn (o := 25) (t := 132) ri_268_107 (by rw [h11]; first | done | decide) (by rw [h11]; first | done | decide) (by rw [h11]; first | done | rfl) rfl ?_
              refine rs_aload_n ri_268_132 rfl rfl ?_
              refine rs_gf (v := .int ((xm_269 (xm_228 (ro_sI (ro_sI (ro_sI (ro_sI (ro_sI (ro_sI (ro_sI M 163 35 v1) 163 36 v2) 163 37 (xf_237 (ro_sI (ro_sI M 163 35 v1) 163 36 v2) v1 (20 : Int32))) 163 38 (0 : Int32)) 163 39 (-2 : Int32)) 163 40 (-2 : Int32)) 163 41 (-1 : Int32))) (0 : Int32) (0 : Int32)).2.1 163 38)) ri_268_133 rfl (by decide) (ro_kf (kd_163 (xl_269 (xl_228 hL q8) q9))) rfl rfl ?_
              refine rs_iret ri_268_136 rm_268.2.1 (by decide) ?_
              exact ⟨by unfold xf_268; first | (simp only [if_pos h1, if_pos h2, if_pos h3, if_pos h5, if_pos h7, if_pos h11]; done) | rfl, by unfold xm_268; first | (simp only [if_pos h1, if_pos h2, if_pos h3, if_pos h5, if_pos h7, if_pos h11]; done) | rfl⟩
            · skip
              by_cases h12 : v3 = (1 : Int32)
              · skip
                refine rs_swIn (o := 30) (t := 137) ri_268_107 (by rw [h12]; first | done | decide) (by rw [h12]; first | done | decide) (by rw [h12]; first | done | rfl) rfl ?_
                refine rs_aload_n ri_268_137 rfl rfl ?_
                refine rs_gf (v := .int ((xm_269 (xm_228 (ro_sI (ro_sI (ro_sI (ro_sI (ro_sI (ro_sI (ro_sI M 163 35 v1) 163 36 v2) 163 37 (xf_237 (ro_sI (ro_sI M 163 35 v1) 163 36 v2) v1 (20 : Int32))) 163 38 (0 : Int32)) 163 39 (-2 : Int32)) 163 40 (-2 : Int32)) 163 41 (-1 : Int32))) (0 : Int32) (0 : Int32)).2.1 163 39)) ri_268_138 rfl (by decide) (ro_kf (kd_163 (xl_269 (xl_228 hL q8) q9))) rfl rfl ?_
                refine rs_iret ri_268_141 rm_268.2.1 (by decide) ?_
                exact ⟨by unfold xf_268; first | (simp only [if_pos h1, if_pos h2, if_pos h3, if_pos h5, if_pos h7, if_neg h11, if_pos h12]; done) | rfl, by unfold xm_268; first | (simp only [if_pos h1, if_pos h2, if_pos h3, if_pos h5, if_pos h7, if_neg h11, if_pos h12]; done) | rfl⟩
              · skip
                by_cases h13 : v3 = (2 : Int32)
                · skip
                  refine rs_swIn (o := 35) (t := 142) ri_268_107 (by rw [h13]; first | done | decide) (by rw [h13]; first | done | decide) (by rw [h13]; first | done | rfl) rfl ?_
                  refine rs_aload_n ri_268_142 rfl rfl ?_
                  refine rs_gf (v := .int ((xm_269 (xm_228 (ro_sI (ro_sI (ro_sI (ro_sI (ro_sI (ro_sI (ro_sI M 163 35 v1) 163 36 v2) 163 37 (xf_237 (ro_sI (ro_sI M 163 35 v1) 163 36 v2) v1 (20 : Int32))) 163 38 (0 : Int32)) 163 39 (-2 : Int32)) 163 40 (-2 : Int32)) 163 41 (-1 : Int32))) (0 : Int32) (0 : Int32)).2.1 163 40)) ri_268_143 rfl (by decide) (ro_kf (kd_163 (xl_269 (xl_228 hL q8) q9))) rfl rfl ?_
                  refine rs_iret ri_268_146 rm_268.2.1 (by decide) ?_
                  exact ⟨by unfold xf_268; first | (simp only [if_pos h1, if_pos h2, if_pos h3, if_pos h5, if_pos h7, if_neg h11, if_neg h12, if_pos h13]; done) | rfl, by unfold xm_268; first | (simp only [if_pos h1, if_pos h2, if_pos h3, if_pos h5, if_pos h7, if_neg h11, if_neg h12, if_pos h13]; done) | rfl⟩
                · skip
                  refine rs_swOut (t := 147) ri_268_107 (by have g0 := ro_ne_i (z := 0) h11 rfl; have g1 := ro_ne_i (z := 1) h12 rfl; have g2 := ro_ne_i (z := 2) h13 rfl; omega) rfl ?_
                  refine rs_aload_n ri_268_147 rfl rfl ?_
                  refine rs_gf (v := .int ((xm_269 (xm_228 (ro_sI (ro_sI (ro_sI (ro_sI (ro_sI (ro_sI (ro_sI M 163 35 v1) 163 36 v2) 163 37 (xf_237 (ro_sI (ro_sI M 163 35 v1) 163 36 v2) v1 (20 : Int32))) 163 38 (0 : Int32)) 163 39 (-2 : Int32)) 163 40 (-2 : Int32)) 163 41 (-1 : Int32))) (0 : Int32) (0 : Int32)).2.1 163 38)) ri_268_148 rfl (by decide) (ro_kf (kd_163 (xl_269 (xl_228 hL q8) q9))) rfl rfl ?_
                  refine rs_if_ne (t := 158) ri_268_151 rfl rfl (fun h14 => ?_) (fun h14 => ?_)
                  · skip
                    refine rs_aload_n ri_268_158 rfl rfl ?_
                    refine rs_gf (v := .int ((xm_269 (xm_228 (ro_sI (ro_sI (ro_sI (ro_sI (ro_sI (ro_sI (ro_sI M 163 35 v1) 163 36 v2) 163 37 (xf_237 (ro_sI (ro_sI M 163 35 v1) 163 36 v2) v1 (20 : Int32))) 163 38 (0 : Int32)) 163 39 (-2 : Int32)) 163 40 (-2 : Int32)) 163 41 (-1 : Int32))) (0 : Int32) (0 : Int32)).2.1 163 41)) ri_268_159 rfl (by decide) (ro_kf (kd_163 (xl_269 (xl_228 hL q8) q9))) rfl rfl ?_
                    refine rs_iret ri_268_162 rm_268.2.1 (by decide) ?_
                    exact ⟨by unfold xf_268; first | (simp only [if_pos h1, if_pos h2, if_pos h3, if_pos h5, if_pos h7, if_neg h11, if_neg h12, if_neg h13, if_neg h14]; done) | rfl, by unfold xm_268; first | (simp only [if_pos h1, if_pos h2, if_pos h3, if_pos h5, if_pos h7, if_neg h11, if_neg h12, if_neg h13, if_neg h14]; done) | rfl⟩
                  · skip
                    refine rs_iconst (v := (0 : Int32)) ri_268_154 rfl (by decide) ?_
                    refine rs_goto (t := 162) ri_268_155 rfl ?_
                    refine rs_iret ri_268_162 rm_268.2.1 (by decide) ?_
                    exact ⟨by unfold xf_268; first | (simp only [if_pos h1, if_pos h2, if_pos h3, if_pos h5, if_pos h7, if_neg h11, if_neg h12, if_neg h13, if_pos h14]; done) | rfl, by unfold xm_268; first | (simp only [if_pos h1, if_pos h2, if_pos h3, if_pos h5, if_pos h7, if_neg h11, if_neg h12, if_neg h13, if_pos h14]; done) | rfl⟩
          · have hp := hp.2 h7
            refine rs_aload_n ri_268_47 rfl rfl ?_
            refine rs_iload_n ri_268_48 rfl rfl ?_
            obtain ⟨q14, hp⟩ := hp
            refine rs_virt (As := [.int v2]) (r := []) ri_268_49 rfl (by decide) rm_235.2.2.2 rm_235.2.2.1 rfl rfl rfl (by decide) (ro_kf (kd_163 hL)) (Nat.le_of_ble_eq_true rfl) (by decide) (by decide) (xs_235 (X := X) hL q14) ?_
            rintro _ _ ⟨e1, e2⟩
            rw [e1, e2]
            show ro_w X _ 268 _ 52 [(0, .ref 163), (1, .int v1), (2, .int v2), (3, .int v3)] [.int (xf_235 M v2)] M (0, 0)
            refine rs_iret ri_268_52 rm_268.2.1 (by decide) ?_
            exact ⟨by unfold xf_268; first | (simp only [if_pos h1, if_pos h2, if_pos h3, if_pos h5, if_neg h7]; done) | rfl, by unfold xm_268; first | (simp only [if_pos h1, if_pos h2, if_pos h3, if_pos h5, if_neg h7]; done) | rfl⟩
        · have hp := hp.2 h5
          refine rs_aload_n ri_268_33 rfl rfl ?_
          refine rs_iload_n ri_268_34 rfl rfl ?_
          obtain ⟨q15, hp⟩ := hp
          refine rs_virt (As := [.int v1]) (r := []) ri_268_35 rfl (by decide) rm_235.2.2.2 rm_235.2.2.1 rfl rfl rfl (by decide) (ro_kf (kd_163 hL)) (Nat.le_of_ble_eq_true rfl) (by decide) (by decide) (xs_235 (X := X) hL q15) ?_
          rintro _ _ ⟨e1, e2⟩
          rw [e1, e2]
          show ro_w X _ 268 _ 38 [(0, .ref 163), (1, .int v1), (2, .int v2), (3, .int v3)] [.int (xf_235 M v1)] M (0, 0)
          refine rs_iret ri_268_38 rm_268.2.1 (by decide) ?_
          exact ⟨by unfold xf_268; first | (simp only [if_pos h1, if_pos h2, if_pos h3, if_neg h5]; done) | rfl, by unfold xm_268; first | (simp only [if_pos h1, if_pos h2, if_pos h3, if_neg h5]; done) | rfl⟩
      · have hp := hp.2 h3
        refine rs_iconst (v := (-1 : Int32)) ri_268_23 rfl (by decide) ?_
        refine rs_iret ri_268_24 rm_268.2.1 (by decide) ?_
        exact ⟨by unfold xf_268; first | (simp only [if_pos h1, if_pos h2, if_neg h3]; done) | rfl, by unfold xm_268; first | (simp only [if_pos h1, if_pos h2, if_neg h3]; done) | rfl⟩
theorem xl_268 {M : ro_Mm} {v1 : Int32} {v2 : Int32} {v3 : Int32} (hL : ro_lay M) (hp : xp_268 M v1 v2 v3) : ro_lay (xm_268 M v1 v2 v3) := by
  unfold xp_268 at hp
  unfold xm_268
  by_cases hz : (xf_198 M v1)
  · have hp := hp.1 hz
    rw [if_pos hz]
    by_cases hz : (xf_198 M v2)
    · have hp := hp.1 hz
      rw [if_pos hz]
      by_cases hz : (xf_195 M v3 (0 : Int32) (3 : Int32))
      · have hp := hp.1 hz
        rw [if_pos hz]
        obtain ⟨q3, hp⟩ := hp
        by_cases hz : (0 : Int32) ≤ (xf_235 M v1)
        · have hp := hp.1 hz
          rw [if_pos hz]
          obtain ⟨q5, hp⟩ := hp
          by_cases hz : (0 : Int32) ≤ (xf_235 M v2)
          · have hp := hp.1 hz
            rw [if_pos hz]
            obtain ⟨q7, hp⟩ := hp
            obtain ⟨q8, hp⟩ := hp
            obtain ⟨q9, hp⟩ := hp
            by_cases hz : v3 = (0 : Int32)
            · skip
              exact (xl_269 (xl_228 hL q8) q9)
            · skip
              by_cases hz : v3 = (1 : Int32)
              · skip
                exact (xl_269 (xl_228 hL q8) q9)
              · skip
                by_cases hz : v3 = (2 : Int32)
                · skip
                  exact (xl_269 (xl_228 hL q8) q9)
                · skip
                  by_cases hz : ((xm_269 (xm_228 (ro_sI (ro_sI (ro_sI (ro_sI (ro_sI (ro_sI (ro_sI M 163 35 v1) 163 36 v2) 163 37 (xf_237 (ro_sI (ro_sI M 163 35 v1) 163 36 v2) v1 (20 : Int32))) 163 38 (0 : Int32)) 163 39 (-2 : Int32)) 163 40 (-2 : Int32)) 163 41 (-1 : Int32))) (0 : Int32) (0 : Int32)).2.1 163 38) = (0 : Int32)
                  · skip
                    exact (xl_269 (xl_228 hL q8) q9)
                  · skip
                    exact (xl_269 (xl_228 hL q8) q9)
          · have hp := hp.2 hz
            rw [if_neg hz]
            obtain ⟨q14, hp⟩ := hp
            exact hL
        · have hp := hp.2 hz
          rw [if_neg hz]
          obtain ⟨q15, hp⟩ := hp
          exact hL
      · have hp := hp.2 hz
        rw [if_neg hz]
        exact hL
    · have hp := hp.2 hz
      rw [if_neg hz]
      exact hL
  · have hp := hp.2 hz
    rw [if_neg hz]
    exact hL
/-- a loop of RefusedOnceModel.findPay(II)J -/
noncomputable def xg_252_6 : Nat → ro_Mm → Int32 → Int32 → Int32 → Int32 × ro_Mm
  | 0, M, v3, v1, v2 => (v3, M)
  | n + 1, M, v3, v1, v2 => (if (8 : Int32) < v3 then (v3, M) else (xg_252_6 n (ro_sJ M 183 (v3.toNatClampNeg) (0 : Int64)) (v3 + (1 : Int32)) v1 v2))
def xq_252_6 : Nat → ro_Mm → Int32 → Int32 → Int32 → Prop
  | 0, _, _, _, _ => False
  | n + 1, M, v3, v1, v2 => (((8 : Int32) < v3 → True) ∧ (¬ ((8 : Int32) < v3) → (vp_in v3 9 ∧ (xq_252_6 n (ro_sJ M 183 (v3.toNatClampNeg) (0 : Int64)) (v3 + (1 : Int32)) v1 v2))))
theorem xt_252_6 {X : ro_Sx} {post : ro_Po} : ∀ (n : Nat) {M : ro_Mm} {v3 : Int32} {v1 : Int32} {v2 : Int32} (hL : ro_lay M) (hp : xq_252_6 n M v3 v1 v2) (hk : ro_w X 700 252 post 25 [(3, .int (xg_252_6 n M v3 v1 v2).1), (0, .ref 163), (1, .int v1), (2, .int v2)] [] (xg_252_6 n M v3 v1 v2).2 (0, 0)), ro_w X 700 252 post 6 [(3, .int v3), (0, .ref 163), (1, .int v1), (2, .int v2)] [] M (0, 0) := by
  intro n
  induction n with
  | zero => intro M v3 v1 v2 hL hp hk; exact False.elim hp
  | succ n ih =>
    intro M v3 v1 v2 hL hp hk
    rw [xq_252_6] at hp
    refine rs_iload_n ri_252_6 rfl rfl ?_
    refine rs_bipush (v := (8 : Int32)) ri_252_7 rfl (by decide) ?_
    refine rs_icmp_gt (t := 25) ri_252_9 rfl rfl (fun h2 => ?_) (fun h2 => ?_)
    · skip
      have e : xg_252_6 (n + 1) M v3 v1 v2 = (v3, M) := by rw [xg_252_6]; first | (simp only [if_pos h2]; done) | rfl
      rw [e] at hk
      exact ro_w_lv (ro_sub_c rfl (ro_sub_c rfl (ro_sub_c rfl (ro_sub_c rfl (ro_sub_n rfl))))) hk
    · have hp := hp.2 h2
      refine rs_aload_n ri_252_12 rfl rfl ?_
      refine rs_gf (v := .ref 183) ri_252_13 rfl (by decide) (ro_kf (kd_163 hL)) rfl (rf_163_32 hL) ?_
      refine rs_iload_n ri_252_16 rfl rfl ?_
      refine rs_lconst (v := (0 : Int64)) ri_252_17 rfl rfl ?_
      obtain ⟨q2, hp⟩ := hp
      refine rs_last (j := v3.toNatClampNeg) ri_252_18 rfl (by decide) (kd_183 hL) q2 rfl ?_
      refine rs_iinc (v := (v3 + (1 : Int32))) (lv2 := [(3, .int (v3 + (1 : Int32))), (0, .ref 163), (1, .int v1), (2, .int v2)]) ri_252_19 rfl rfl rfl rm_252.1 (by decide) rfl ?_
      refine rs_goto (t := 6) ri_252_22 rfl ?_
      have e : xg_252_6 (n + 1) M v3 v1 v2 = xg_252_6 n (ro_sJ M 183 (v3.toNatClampNeg) (0 : Int64)) (v3 + (1 : Int32)) v1 v2 := by rw [xg_252_6]; first | (simp only [if_neg h2]; done) | rfl
      rw [e] at hk
      exact ro_w_lv (ro_sub_c rfl (ro_sub_c rfl (ro_sub_c rfl (ro_sub_c rfl (ro_sub_n rfl))))) (ih hL  hp hk)
theorem xl_252_6 : ∀ (n : Nat) {M : ro_Mm} {v3 : Int32} {v1 : Int32} {v2 : Int32} (hL : ro_lay M) (hp : xq_252_6 n M v3 v1 v2), ro_lay (xg_252_6 n M v3 v1 v2).2 := by
  intro n
  induction n with
  | zero => intro M v3 v1 v2 hL hp; exact False.elim hp
  | succ n ih =>
    intro M v3 v1 v2 hL hp
    rw [xq_252_6] at hp
    rw [xg_252_6]
    by_cases hz : (8 : Int32) < v3
    · have hp := hp.1 hz
      rw [if_pos hz]
      exact hL
    · have hp := hp.2 hz
      rw [if_neg hz]
      obtain ⟨q2, hp⟩ := hp
      exact ih hL  hp
theorem xwI_252_6 : ∀ {n : Nat} {M : ro_Mm} {v3 : Int32} {v1 : Int32} {v2 : Int32} {c j : Nat}, (xg_252_6 n M v3 v1 v2).2.2.1 c j = M.2.1 c j := by
  intro n
  induction n with
  | zero => intro M v3 v1 v2 c j; rfl
  | succ n ih =>
    intro M v3 v1 v2 c j
    rw [xg_252_6]
    by_cases hz : (8 : Int32) < v3
    · rw [if_pos hz]
      first | done | exact rfl
    · rw [if_neg hz]
      first | done | exact (((ih)).trans (congrFun (congrFun ro_sJ_I _) _))
theorem xwJ_252_6 : ∀ {n : Nat} {M : ro_Mm} {v3 : Int32} {v1 : Int32} {v2 : Int32} {c j : Nat} (n0 : c ≠ 183), (xg_252_6 n M v3 v1 v2).2.2.2.1 c j = M.2.2.1 c j := by
  intro n
  induction n with
  | zero => intro M v3 v1 v2 c j n0; rfl
  | succ n ih =>
    intro M v3 v1 v2 c j n0
    rw [xg_252_6]
    by_cases hz : (8 : Int32) < v3
    · rw [if_pos hz]
      first | done | exact rfl
    · rw [if_neg hz]
      first | done | exact (((ih n0)).trans (ro_sJ_ne n0))
/-- a loop of RefusedOnceModel.findPay(II)J -/
noncomputable def xg_252_45 : Nat → ro_Mm → Int32 → Int64 → Int32 → Int32 → Int32 × Int64
  | 0, M, v5, v3, v1, v2 => (v5, v3)
  | n + 1, M, v5, v3, v1, v2 => (if v2 ≤ v5 then (v5, v3) else (xg_252_45 n M (v5 + (1 : Int32)) (v3 * (12 : Int64)) v1 v2))
def xq_252_45 : Nat → ro_Mm → Int32 → Int64 → Int32 → Int32 → Prop
  | 0, _, _, _, _, _ => False
  | n + 1, M, v5, v3, v1, v2 => ((v2 ≤ v5 → True) ∧ (¬ (v2 ≤ v5) → (xq_252_45 n M (v5 + (1 : Int32)) (v3 * (12 : Int64)) v1 v2)))
theorem xt_252_45 {X : ro_Sx} {post : ro_Po} : ∀ (n : Nat) {M : ro_Mm} {v5 : Int32} {v3 : Int64} {v1 : Int32} {v2 : Int32} (hL : ro_lay M) (hp : xq_252_45 n M v5 v3 v1 v2) (hk : ro_w X 700 252 post 63 [(5, .int (xg_252_45 n M v5 v3 v1 v2).1), (3, .long (xg_252_45 n M v5 v3 v1 v2).2), (0, .ref 163), (1, .int v1), (2, .int v2)] [] M (0, 0)), ro_w X 700 252 post 45 [(5, .int v5), (3, .long v3), (0, .ref 163), (1, .int v1), (2, .int v2)] [] M (0, 0) := by
  intro n
  induction n with
  | zero => intro M v5 v3 v1 v2 hL hp hk; exact False.elim hp
  | succ n ih =>
    intro M v5 v3 v1 v2 hL hp hk
    rw [xq_252_45] at hp
    refine rs_iload ri_252_45 rfl rfl ?_
    refine rs_iload_n ri_252_47 rfl rfl ?_
    refine rs_icmp_ge (t := 63) ri_252_48 rfl rfl (fun h6 => ?_) (fun h6 => ?_)
    · skip
      have e : xg_252_45 (n + 1) M v5 v3 v1 v2 = (v5, v3) := by rw [xg_252_45]; first | (simp only [if_pos h6]; done) | rfl
      rw [e] at hk
      exact ro_w_lv (ro_sub_c rfl (ro_sub_c rfl (ro_sub_c rfl (ro_sub_c rfl (ro_sub_c rfl (ro_sub_n rfl)))))) hk
    · have hp := hp.2 h6
      refine rs_lload_n ri_252_51 rfl rfl ?_
      refine rs_ldc2 (v := (12 : Int64)) ri_252_52 rfl rfl rfl ?_
      refine rs_lmul (r := (v3 * (12 : Int64))) ri_252_55 rfl rfl ?_
      refine rs_lstore_n (lv2 := [(3, .long (v3 * (12 : Int64))), (5, .int v5), (0, .ref 163), (1, .int v1), (2, .int v2)]) ri_252_56 rfl rm_252.1 (by decide) rfl ?_
      refine rs_iinc (v := (v5 + (1 : Int32))) (lv2 := [(5, .int (v5 + (1 : Int32))), (3, .long (v3 * (12 : Int64))), (0, .ref 163), (1, .int v1), (2, .int v2)]) ri_252_57 rfl rfl rfl rm_252.1 (by decide) rfl ?_
      refine rs_goto (t := 45) ri_252_60 rfl ?_
      have e : xg_252_45 (n + 1) M v5 v3 v1 v2 = xg_252_45 n M (v5 + (1 : Int32)) (v3 * (12 : Int64)) v1 v2 := by rw [xg_252_45]; first | (simp only [if_neg h6]; done) | rfl
      rw [e] at hk
      exact ro_w_lv (ro_sub_c rfl (ro_sub_c rfl (ro_sub_c rfl (ro_sub_c rfl (ro_sub_c rfl (ro_sub_n rfl)))))) (ih hL  hp hk)
/-- RefusedOnceModel.findPay(II)J -/
noncomputable def xf_252 (M : ro_Mm) (v1 : Int32) (v2 : Int32) : Int64 := (xg_252_45 lp_N (xm_253 (xg_252_6 lp_N (xm_228 M) (0 : Int32) v1 v2).2 (v1 / (10 : Int32)) (ro_irem v1 (10 : Int32)) v2 (0 : Int32) (1 : Int64)) (0 : Int32) (1 : Int64) v1 v2).2
noncomputable def xm_252 (M : ro_Mm) (v1 : Int32) (v2 : Int32) : ro_Mm := (xm_253 (xg_252_6 lp_N (xm_228 M) (0 : Int32) v1 v2).2 (v1 / (10 : Int32)) (ro_irem v1 (10 : Int32)) v2 (0 : Int32) (1 : Int64))
def xp_252 (M : ro_Mm) (v1 : Int32) (v2 : Int32) : Prop := (xp_228 M ∧ (xq_252_6 lp_N (xm_228 M) (0 : Int32) v1 v2 ∧ (xp_253 (xg_252_6 lp_N (xm_228 M) (0 : Int32) v1 v2).2 (v1 / (10 : Int32)) (ro_irem v1 (10 : Int32)) v2 (0 : Int32) (1 : Int64) ∧ (xq_252_45 lp_N (xm_253 (xg_252_6 lp_N (xm_228 M) (0 : Int32) v1 v2).2 (v1 / (10 : Int32)) (ro_irem v1 (10 : Int32)) v2 (0 : Int32) (1 : Int64)) (0 : Int32) (1 : Int64) v1 v2 ∧ True))))
theorem xs_252 {X : ro_Sx} {M : ro_Mm} {v1 : Int32} {v2 : Int32} (hL : ro_lay M) (hp : xp_252 M v1 v2) : ro_cwp X 701 252 [.ref 163, .int v1, .int v2] M (fun v M2 => v = some (.long (xf_252 M v1 v2)) ∧ M2 = xm_252 M v1 v2) := by
  refine rs_begin (lv0 := [(0, .ref 163), (1, .int v1), (2, .int v2)]) (by decide) rfl (by rw [rm_252.1]; exact Nat.le_of_ble_eq_true rfl) rfl ?_
  unfold xp_252 at hp
  refine rs_aload_n ri_252_0 rfl rfl ?_
  obtain ⟨q0, hp⟩ := hp
  refine rs_virt (As := []) (r := []) ri_252_1 rfl (by decide) rm_228.2.2.2 rm_228.2.2.1 rfl rfl rfl (by decide) (ro_kf (kd_163 hL)) (Nat.le_of_ble_eq_true rfl) (by decide) (by decide) (xs_228 (X := X) hL q0) ?_
  rintro _ _ ⟨e1, e2⟩
  rw [e1, e2]
  show ro_w X _ 252 _ 4 [(0, .ref 163), (1, .int v1), (2, .int v2)] [] (xm_228 M) (0, 0)
  refine rs_iconst (v := (0 : Int32)) ri_252_4 rfl (by decide) ?_
  refine rs_istore_n (lv2 := [(3, .int (0 : Int32)), (0, .ref 163), (1, .int v1), (2, .int v2)]) ri_252_5 rfl rm_252.1 (by decide) rfl ?_
  obtain ⟨q3, hp⟩ := hp
  refine xt_252_6 lp_N (xl_228 hL q0) q3 ?_
  refine rs_aload_n ri_252_25 rfl rfl ?_
  refine rs_iload_n ri_252_26 rfl rfl ?_
  refine rs_bipush (v := (10 : Int32)) ri_252_27 rfl (by decide) ?_
  refine rs_idiv (r := (v1 / (10 : Int32))) ri_252_29 rfl (by decide) rfl ?_
  refine rs_iload_n ri_252_30 rfl rfl ?_
  refine rs_bipush (v := (10 : Int32)) ri_252_31 rfl (by decide) ?_
  refine rs_irem (r := (ro_irem v1 (10 : Int32))) ri_252_33 rfl (by decide) rfl ?_
  refine rs_iload_n ri_252_34 rfl rfl ?_
  refine rs_iconst (v := (0 : Int32)) ri_252_35 rfl (by decide) ?_
  refine rs_lconst (v := (1 : Int64)) ri_252_36 rfl rfl ?_
  obtain ⟨q4, hp⟩ := hp
  refine rs_virt (As := [.int (v1 / (10 : Int32)), .int (ro_irem v1 (10 : Int32)), .int v2, .int (0 : Int32), .long (1 : Int64)]) (r := []) ri_252_37 rfl (by decide) rm_253.2.2.2 rm_253.2.2.1 rfl rfl rfl (by decide) (ro_kf (kd_163 (xl_252_6 lp_N (xl_228 hL q0) q3))) (Nat.le_of_ble_eq_true rfl) (by decide) (by decide) (xs_253 (X := X) (xl_252_6 lp_N (xl_228 hL q0) q3) q4) ?_
  rintro _ _ ⟨e1, e2⟩
  rw [e1, e2]
  show ro_w X _ 252 _ 40 [(3, .int (xg_252_6 lp_N (xm_228 M) (0 : Int32) v1 v2).1), (0, .ref 163), (1, .int v1), (2, .int v2)] [] (xm_253 (xg_252_6 lp_N (xm_228 M) (0 : Int32) v1 v2).2 (v1 / (10 : Int32)) (ro_irem v1 (10 : Int32)) v2 (0 : Int32) (1 : Int64)) (0, 0)
  refine rs_lconst (v := (1 : Int64)) ri_252_40 rfl rfl ?_
  refine rs_lstore_n (lv2 := [(3, .long (1 : Int64)), (0, .ref 163), (1, .int v1), (2, .int v2)]) ri_252_41 rfl rm_252.1 (by decide) rfl ?_
  refine rs_iconst (v := (0 : Int32)) ri_252_42 rfl (by decide) ?_
  refine rs_istore (lv2 := [(5, .int (0 : Int32)), (3, .long (1 : Int64)), (0, .ref 163), (1, .int v1), (2, .int v2)]) ri_252_43 rfl rm_252.1 (by decide) rfl ?_
  obtain ⟨q6, hp⟩ := hp
  refine xt_252_45 lp_N (xl_253 (xl_252_6 lp_N (xl_228 hL q0) q3) q4) q6 ?_
  refine rs_lload_n ri_252_63 rfl rfl ?_
  refine rs_lret ri_252_64 rm_252.2.1 (by decide) ?_
  exact ⟨by rfl, by rfl⟩
theorem xl_252 {M : ro_Mm} {v1 : Int32} {v2 : Int32} (hL : ro_lay M) (hp : xp_252 M v1 v2) : ro_lay (xm_252 M v1 v2) := by
  unfold xp_252 at hp
  unfold xm_252
  obtain ⟨q0, hp⟩ := hp
  obtain ⟨q3, hp⟩ := hp
  obtain ⟨q4, hp⟩ := hp
  obtain ⟨q6, hp⟩ := hp
  exact (xl_253 (xl_252_6 lp_N (xl_228 hL q0) q3) q4)
/-- a loop of RefusedOnceModel.mean(III)J -/
noncomputable def xg_255_45 : Nat → ro_Mm → Int32 → Int64 → Int64 → Int32 → Int32 → Int32 → Int32 × Int64
  | 0, M, v8, v6, v4, v1, v2, v3 => (v8, v6)
  | n + 1, M, v8, v6, v4, v1, v2, v3 => (if (8 : Int32) < v8 then (v8, v6) else (xg_255_45 n M (v8 + (1 : Int32)) (v6 + ((v8.toInt64) * (M.2.2.1 183 (v8.toNatClampNeg)))) v4 v1 v2 v3))
def xq_255_45 : Nat → ro_Mm → Int32 → Int64 → Int64 → Int32 → Int32 → Int32 → Prop
  | 0, _, _, _, _, _, _, _ => False
  | n + 1, M, v8, v6, v4, v1, v2, v3 => (((8 : Int32) < v8 → True) ∧ (¬ ((8 : Int32) < v8) → (vp_in v8 9 ∧ (xq_255_45 n M (v8 + (1 : Int32)) (v6 + ((v8.toInt64) * (M.2.2.1 183 (v8.toNatClampNeg)))) v4 v1 v2 v3))))
theorem xt_255_45 {X : ro_Sx} {post : ro_Po} : ∀ (n : Nat) {M : ro_Mm} {v8 : Int32} {v6 : Int64} {v4 : Int64} {v1 : Int32} {v2 : Int32} {v3 : Int32} (hL : ro_lay M) (hp : xq_255_45 n M v8 v6 v4 v1 v2 v3) (hk : ro_w X 701 255 post 74 [(8, .int (xg_255_45 n M v8 v6 v4 v1 v2 v3).1), (6, .long (xg_255_45 n M v8 v6 v4 v1 v2 v3).2), (4, .long v4), (0, .ref 163), (1, .int v1), (2, .int v2), (3, .int v3)] [] M (0, 0)), ro_w X 701 255 post 45 [(8, .int v8), (6, .long v6), (4, .long v4), (0, .ref 163), (1, .int v1), (2, .int v2), (3, .int v3)] [] M (0, 0) := by
  intro n
  induction n with
  | zero => intro M v8 v6 v4 v1 v2 v3 hL hp hk; exact False.elim hp
  | succ n ih =>
    intro M v8 v6 v4 v1 v2 v3 hL hp hk
    rw [xq_255_45] at hp
    refine rs_iload ri_255_45 rfl rfl ?_
    refine rs_bipush (v := (8 : Int32)) ri_255_47 rfl (by decide) ?_
    refine rs_icmp_gt (t := 74) ri_255_49 rfl rfl (fun h5 => ?_) (fun h5 => ?_)
    · skip
      have e : xg_255_45 (n + 1) M v8 v6 v4 v1 v2 v3 = (v8, v6) := by rw [xg_255_45]; first | (simp only [if_pos h5]; done) | rfl
      rw [e] at hk
      exact ro_w_lv (ro_sub_c rfl (ro_sub_c rfl (ro_sub_c rfl (ro_sub_c rfl (ro_sub_c rfl (ro_sub_c rfl (ro_sub_c rfl (ro_sub_n rfl)))))))) hk
    · have hp := hp.2 h5
      refine rs_lload ri_255_52 rfl rfl ?_
      refine rs_iload ri_255_54 rfl rfl ?_
      refine rs_i2l (r := (v8.toInt64)) ri_255_56 rfl rfl ?_
      refine rs_aload_n ri_255_57 rfl rfl ?_
      refine rs_gf (v := .ref 183) ri_255_58 rfl (by decide) (ro_kf (kd_163 hL)) rfl (rf_163_32 hL) ?_
      refine rs_iload ri_255_61 rfl rfl ?_
      obtain ⟨q5, hp⟩ := hp
      refine rs_lald (v := (M.2.2.1 183 (v8.toNatClampNeg))) ri_255_63 rfl (by decide) (kd_183 hL) q5 rfl ?_
      refine rs_lmul (r := ((v8.toInt64) * (M.2.2.1 183 (v8.toNatClampNeg)))) ri_255_64 rfl rfl ?_
      refine rs_ladd (r := (v6 + ((v8.toInt64) * (M.2.2.1 183 (v8.toNatClampNeg))))) ri_255_65 rfl rfl ?_
      refine rs_lstore (lv2 := [(6, .long (v6 + ((v8.toInt64) * (M.2.2.1 183 (v8.toNatClampNeg))))), (8, .int v8), (4, .long v4), (0, .ref 163), (1, .int v1), (2, .int v2), (3, .int v3)]) ri_255_66 rfl rm_255.1 (by decide) rfl ?_
      refine rs_iinc (v := (v8 + (1 : Int32))) (lv2 := [(8, .int (v8 + (1 : Int32))), (6, .long (v6 + ((v8.toInt64) * (M.2.2.1 183 (v8.toNatClampNeg))))), (4, .long v4), (0, .ref 163), (1, .int v1), (2, .int v2), (3, .int v3)]) ri_255_68 rfl rfl rfl rm_255.1 (by decide) rfl ?_
      refine rs_goto (t := 45) ri_255_71 rfl ?_
      have e : xg_255_45 (n + 1) M v8 v6 v4 v1 v2 v3 = xg_255_45 n M (v8 + (1 : Int32)) (v6 + ((v8.toInt64) * (M.2.2.1 183 (v8.toNatClampNeg)))) v4 v1 v2 v3 := by rw [xg_255_45]; first | (simp only [if_neg h5]; done) | rfl
      rw [e] at hk
      exact ro_w_lv (ro_sub_c rfl (ro_sub_c rfl (ro_sub_c rfl (ro_sub_c rfl (ro_sub_c rfl (ro_sub_c rfl (ro_sub_c rfl (ro_sub_n rfl)))))))) (ih hL  hp hk)
/-- RefusedOnceModel.mean(III)J -/
noncomputable def xf_255 (M : ro_Mm) (v1 : Int32) (v2 : Int32) (v3 : Int32) : Int64 := (if (xf_227 M v1) then (if (xf_195 M v2 (0 : Int32) (8 : Int32)) then (if (xf_195 M v3 (0 : Int32) (1 : Int32)) then (xf_254 (xm_252 M v1 v2) (xg_255_45 lp_N (xm_252 M v1 v2) (1 : Int32) (0 : Int64) (xf_252 M v1 v2) v1 v2 v3).2 (xf_252 M v1 v2) v3) else (-9223372036854775808 : Int64)) else (-9223372036854775808 : Int64)) else (-9223372036854775808 : Int64))
noncomputable def xm_255 (M : ro_Mm) (v1 : Int32) (v2 : Int32) (v3 : Int32) : ro_Mm := (if (xf_227 M v1) then (if (xf_195 M v2 (0 : Int32) (8 : Int32)) then (if (xf_195 M v3 (0 : Int32) (1 : Int32)) then (xm_252 M v1 v2) else M) else M) else M)
def xp_255 (M : ro_Mm) (v1 : Int32) (v2 : Int32) (v3 : Int32) : Prop := (((xf_227 M v1) → (((xf_195 M v2 (0 : Int32) (8 : Int32)) → (((xf_195 M v3 (0 : Int32) (1 : Int32)) → (xp_252 M v1 v2 ∧ (xq_255_45 lp_N (xm_252 M v1 v2) (1 : Int32) (0 : Int64) (xf_252 M v1 v2) v1 v2 v3 ∧ (xp_254 (xm_252 M v1 v2) (xg_255_45 lp_N (xm_252 M v1 v2) (1 : Int32) (0 : Int64) (xf_252 M v1 v2) v1 v2 v3).2 (xf_252 M v1 v2) v3 ∧ True)))) ∧ (¬ ((xf_195 M v3 (0 : Int32) (1 : Int32))) → True))) ∧ (¬ ((xf_195 M v2 (0 : Int32) (8 : Int32))) → True))) ∧ (¬ ((xf_227 M v1)) → True))
theorem xs_255 {X : ro_Sx} {M : ro_Mm} {v1 : Int32} {v2 : Int32} {v3 : Int32} (hL : ro_lay M) (hp : xp_255 M v1 v2 v3) : ro_cwp X 702 255 [.ref 163, .int v1, .int v2, .int v3] M (fun v M2 => v = some (.long (xf_255 M v1 v2 v3)) ∧ M2 = xm_255 M v1 v2 v3) := by
  refine rs_begin (lv0 := [(0, .ref 163), (1, .int v1), (2, .int v2), (3, .int v3)]) (by decide) rfl (by rw [rm_255.1]; exact Nat.le_of_ble_eq_true rfl) rfl ?_
  unfold xp_255 at hp
  refine rs_aload_n ri_255_0 rfl rfl ?_
  refine rs_iload_n ri_255_1 rfl rfl ?_
  refine rs_virt (As := [.int v1]) (r := []) ri_255_2 rfl (by decide) rm_227.2.2.2 rm_227.2.2.1 rfl rfl rfl (by decide) (ro_kf (kd_163 hL)) (Nat.le_of_ble_eq_true rfl) (by decide) (by decide) (xs_227 (X := X) hL) ?_
  rintro _ _ ⟨e1, e2⟩
  rw [e1, e2]
  show ro_w X _ 255 _ 5 [(0, .ref 163), (1, .int v1), (2, .int v2), (3, .int v3)] [.int (ro_b (xf_227 M v1))] M (0, 0)
  refine rs_ifeq_c (t := 27) ri_255_5 rfl rfl (fun h1 => ?_) (fun h1 => ?_)
  · have hp := hp.2 h1
    refine rs_ldc2 (v := (-9223372036854775808 : Int64)) ri_255_27 rfl rfl rfl ?_
    refine rs_lret ri_255_30 rm_255.2.1 (by decide) ?_
    exact ⟨by unfold xf_255; first | (simp only [if_neg h1]; done) | rfl, by unfold xm_255; first | (simp only [if_neg h1]; done) | rfl⟩
  · have hp := hp.1 h1
    refine rs_iload_n ri_255_8 rfl rfl ?_
    refine rs_iconst (v := (0 : Int32)) ri_255_9 rfl (by decide) ?_
    refine rs_bipush (v := (8 : Int32)) ri_255_10 rfl (by decide) ?_
    refine rs_stat (As := [.int v2, .int (0 : Int32), .int (8 : Int32)]) (r := []) ri_255_12 rfl rm_195.2.2.2 rfl rfl rfl (Nat.le_of_ble_eq_true rfl) (by decide) (by decide) (xs_195 (X := X) hL) ?_
    rintro _ _ ⟨e1, e2⟩
    rw [e1, e2]
    show ro_w X _ 255 _ 15 [(0, .ref 163), (1, .int v1), (2, .int v2), (3, .int v3)] [.int (ro_b (xf_195 M v2 (0 : Int32) (8 : Int32)))] M (0, 0)
    refine rs_ifeq_c (t := 27) ri_255_15 rfl rfl (fun h2 => ?_) (fun h2 => ?_)
    · have hp := hp.2 h2
      refine rs_ldc2 (v := (-9223372036854775808 : Int64)) ri_255_27 rfl rfl rfl ?_
      refine rs_lret ri_255_30 rm_255.2.1 (by decide) ?_
      exact ⟨by unfold xf_255; first | (simp only [if_pos h1, if_neg h2]; done) | rfl, by unfold xm_255; first | (simp only [if_pos h1, if_neg h2]; done) | rfl⟩
    · have hp := hp.1 h2
      refine rs_iload_n ri_255_18 rfl rfl ?_
      refine rs_iconst (v := (0 : Int32)) ri_255_19 rfl (by decide) ?_
      refine rs_iconst (v := (1 : Int32)) ri_255_20 rfl (by decide) ?_
      refine rs_stat (As := [.int v3, .int (0 : Int32), .int (1 : Int32)]) (r := []) ri_255_21 rfl rm_195.2.2.2 rfl rfl rfl (Nat.le_of_ble_eq_true rfl) (by decide) (by decide) (xs_195 (X := X) hL) ?_
      rintro _ _ ⟨e1, e2⟩
      rw [e1, e2]
      show ro_w X _ 255 _ 24 [(0, .ref 163), (1, .int v1), (2, .int v2), (3, .int v3)] [.int (ro_b (xf_195 M v3 (0 : Int32) (1 : Int32)))] M (0, 0)
      refine rs_ifne_c (t := 31) ri_255_24 rfl rfl (fun h3 => ?_) (fun h3 => ?_)
      · have hp := hp.1 h3
        refine rs_aload_n ri_255_31 rfl rfl ?_
        refine rs_iload_n ri_255_32 rfl rfl ?_
        refine rs_iload_n ri_255_33 rfl rfl ?_
        obtain ⟨q3, hp⟩ := hp
        refine rs_virt (As := [.int v1, .int v2]) (r := []) ri_255_34 rfl (by decide) rm_252.2.2.2 rm_252.2.2.1 rfl rfl rfl (by decide) (ro_kf (kd_163 hL)) (Nat.le_of_ble_eq_true rfl) (by decide) (by decide) (xs_252 (X := X) hL q3) ?_
        rintro _ _ ⟨e1, e2⟩
        rw [e1, e2]
        show ro_w X _ 255 _ 37 [(0, .ref 163), (1, .int v1), (2, .int v2), (3, .int v3)] [.long (xf_252 M v1 v2)] (xm_252 M v1 v2) (0, 0)
        refine rs_lstore (lv2 := [(4, .long (xf_252 M v1 v2)), (0, .ref 163), (1, .int v1), (2, .int v2), (3, .int v3)]) ri_255_37 rfl rm_255.1 (by decide) rfl ?_
        refine rs_lconst (v := (0 : Int64)) ri_255_39 rfl rfl ?_
        refine rs_lstore (lv2 := [(6, .long (0 : Int64)), (4, .long (xf_252 M v1 v2)), (0, .ref 163), (1, .int v1), (2, .int v2), (3, .int v3)]) ri_255_40 rfl rm_255.1 (by decide) rfl ?_
        refine rs_iconst (v := (1 : Int32)) ri_255_42 rfl (by decide) ?_
        refine rs_istore (lv2 := [(8, .int (1 : Int32)), (6, .long (0 : Int64)), (4, .long (xf_252 M v1 v2)), (0, .ref 163), (1, .int v1), (2, .int v2), (3, .int v3)]) ri_255_43 rfl rm_255.1 (by decide) rfl ?_
        obtain ⟨q6, hp⟩ := hp
        refine xt_255_45 lp_N (xl_252 hL q3) q6 ?_
        refine rs_lload ri_255_74 rfl rfl ?_
        refine rs_lload ri_255_76 rfl rfl ?_
        refine rs_iload_n ri_255_78 rfl rfl ?_
        obtain ⟨q7, hp⟩ := hp
        refine rs_stat (As := [.long (xg_255_45 lp_N (xm_252 M v1 v2) (1 : Int32) (0 : Int64) (xf_252 M v1 v2) v1 v2 v3).2, .long (xf_252 M v1 v2), .int v3]) (r := []) ri_255_79 rfl rm_254.2.2.2 rfl rfl rfl (Nat.le_of_ble_eq_true rfl) (by decide) (by decide) (xs_254 (X := X) (xl_252 hL q3) q7) ?_
        rintro _ _ ⟨e1, e2⟩
        rw [e1, e2]
        show ro_w X _ 255 _ 82 [(8, .int (xg_255_45 lp_N (xm_252 M v1 v2) (1 : Int32) (0 : Int64) (xf_252 M v1 v2) v1 v2 v3).1), (6, .long (xg_255_45 lp_N (xm_252 M v1 v2) (1 : Int32) (0 : Int64) (xf_252 M v1 v2) v1 v2 v3).2), (4, .long (xf_252 M v1 v2)), (0, .ref 163), (1, .int v1), (2, .int v2), (3, .int v3)] [.long (xf_254 (xm_252 M v1 v2) (xg_255_45 lp_N (xm_252 M v1 v2) (1 : Int32) (0 : Int64) (xf_252 M v1 v2) v1 v2 v3).2 (xf_252 M v1 v2) v3)] (xm_252 M v1 v2) (0, 0)
        refine rs_lret ri_255_82 rm_255.2.1 (by decide) ?_
        exact ⟨by unfold xf_255; first | (simp only [if_pos h1, if_pos h2, if_pos h3]; done) | rfl, by unfold xm_255; first | (simp only [if_pos h1, if_pos h2, if_pos h3]; done) | rfl⟩
      · have hp := hp.2 h3
        refine rs_ldc2 (v := (-9223372036854775808 : Int64)) ri_255_27 rfl rfl rfl ?_
        refine rs_lret ri_255_30 rm_255.2.1 (by decide) ?_
        exact ⟨by unfold xf_255; first | (simp only [if_pos h1, if_pos h2, if_neg h3]; done) | rfl, by unfold xm_255; first | (simp only [if_pos h1, if_pos h2, if_neg h3]; done) | rfl⟩
theorem xl_255 {M : ro_Mm} {v1 : Int32} {v2 : Int32} {v3 : Int32} (hL : ro_lay M) (hp : xp_255 M v1 v2 v3) : ro_lay (xm_255 M v1 v2 v3) := by
  unfold xp_255 at hp
  unfold xm_255
  by_cases hz : (xf_227 M v1)
  · have hp := hp.1 hz
    rw [if_pos hz]
    by_cases hz : (xf_195 M v2 (0 : Int32) (8 : Int32))
    · have hp := hp.1 hz
      rw [if_pos hz]
      by_cases hz : (xf_195 M v3 (0 : Int32) (1 : Int32))
      · have hp := hp.1 hz
        rw [if_pos hz]
        obtain ⟨q3, hp⟩ := hp
        obtain ⟨q6, hp⟩ := hp
        obtain ⟨q7, hp⟩ := hp
        exact (xl_252 hL q3)
      · have hp := hp.2 hz
        rw [if_neg hz]
        exact hL
    · have hp := hp.2 hz
      rw [if_neg hz]
      exact hL
  · have hp := hp.2 hz
    rw [if_neg hz]
    exact hL
/-- RefusedOnceModel.stays(II)J -/
noncomputable def xf_256 (M : ro_Mm) (v1 : Int32) (v2 : Int32) : Int64 := (if (xf_195 M v1 (0 : Int32) (2 : Int32)) then (if (xf_195 M v2 (0 : Int32) (1 : Int32)) then (if v2 = (0 : Int32) then ((xm_257 (xm_228 M) v1).2.2.1 163 33) else ((xm_257 (xm_228 M) v1).2.2.1 163 34)) else (-9223372036854775808 : Int64)) else (-9223372036854775808 : Int64))
noncomputable def xm_256 (M : ro_Mm) (v1 : Int32) (v2 : Int32) : ro_Mm := (if (xf_195 M v1 (0 : Int32) (2 : Int32)) then (if (xf_195 M v2 (0 : Int32) (1 : Int32)) then (xm_257 (xm_228 M) v1) else M) else M)
def xp_256 (M : ro_Mm) (v1 : Int32) (v2 : Int32) : Prop := (((xf_195 M v1 (0 : Int32) (2 : Int32)) → (((xf_195 M v2 (0 : Int32) (1 : Int32)) → (xp_228 M ∧ (xp_257 (xm_228 M) v1 ∧ True))) ∧ (¬ ((xf_195 M v2 (0 : Int32) (1 : Int32))) → True))) ∧ (¬ ((xf_195 M v1 (0 : Int32) (2 : Int32))) → True))
theorem xs_256 {X : ro_Sx} {M : ro_Mm} {v1 : Int32} {v2 : Int32} (hL : ro_lay M) (hp : xp_256 M v1 v2) : ro_cwp X 701 256 [.ref 163, .int v1, .int v2] M (fun v M2 => v = some (.long (xf_256 M v1 v2)) ∧ M2 = xm_256 M v1 v2) := by
  refine rs_begin (lv0 := [(0, .ref 163), (1, .int v1), (2, .int v2)]) (by decide) rfl (by rw [rm_256.1]; exact Nat.le_of_ble_eq_true rfl) rfl ?_
  unfold xp_256 at hp
  refine rs_iload_n ri_256_0 rfl rfl ?_
  refine rs_iconst (v := (0 : Int32)) ri_256_1 rfl (by decide) ?_
  refine rs_iconst (v := (2 : Int32)) ri_256_2 rfl (by decide) ?_
  refine rs_stat (As := [.int v1, .int (0 : Int32), .int (2 : Int32)]) (r := []) ri_256_3 rfl rm_195.2.2.2 rfl rfl rfl (Nat.le_of_ble_eq_true rfl) (by decide) (by decide) (xs_195 (X := X) hL) ?_
  rintro _ _ ⟨e1, e2⟩
  rw [e1, e2]
  show ro_w X _ 256 _ 6 [(0, .ref 163), (1, .int v1), (2, .int v2)] [.int (ro_b (xf_195 M v1 (0 : Int32) (2 : Int32)))] M (0, 0)
  refine rs_ifeq_c (t := 18) ri_256_6 rfl rfl (fun h1 => ?_) (fun h1 => ?_)
  · have hp := hp.2 h1
    refine rs_ldc2 (v := (-9223372036854775808 : Int64)) ri_256_18 rfl rfl rfl ?_
    refine rs_lret ri_256_21 rm_256.2.1 (by decide) ?_
    exact ⟨by unfold xf_256; first | (simp only [if_neg h1]; done) | rfl, by unfold xm_256; first | (simp only [if_neg h1]; done) | rfl⟩
  · have hp := hp.1 h1
    refine rs_iload_n ri_256_9 rfl rfl ?_
    refine rs_iconst (v := (0 : Int32)) ri_256_10 rfl (by decide) ?_
    refine rs_iconst (v := (1 : Int32)) ri_256_11 rfl (by decide) ?_
    refine rs_stat (As := [.int v2, .int (0 : Int32), .int (1 : Int32)]) (r := []) ri_256_12 rfl rm_195.2.2.2 rfl rfl rfl (Nat.le_of_ble_eq_true rfl) (by decide) (by decide) (xs_195 (X := X) hL) ?_
    rintro _ _ ⟨e1, e2⟩
    rw [e1, e2]
    show ro_w X _ 256 _ 15 [(0, .ref 163), (1, .int v1), (2, .int v2)] [.int (ro_b (xf_195 M v2 (0 : Int32) (1 : Int32)))] M (0, 0)
    refine rs_ifne_c (t := 22) ri_256_15 rfl rfl (fun h2 => ?_) (fun h2 => ?_)
    · have hp := hp.1 h2
      refine rs_aload_n ri_256_22 rfl rfl ?_
      obtain ⟨q2, hp⟩ := hp
      refine rs_virt (As := []) (r := []) ri_256_23 rfl (by decide) rm_228.2.2.2 rm_228.2.2.1 rfl rfl rfl (by decide) (ro_kf (kd_163 hL)) (Nat.le_of_ble_eq_true rfl) (by decide) (by decide) (xs_228 (X := X) hL q2) ?_
      rintro _ _ ⟨e1, e2⟩
      rw [e1, e2]
      show ro_w X _ 256 _ 26 [(0, .ref 163), (1, .int v1), (2, .int v2)] [] (xm_228 M) (0, 0)
      refine rs_aload_n ri_256_26 rfl rfl ?_
      refine rs_iload_n ri_256_27 rfl rfl ?_
      obtain ⟨q3, hp⟩ := hp
      refine rs_virt (As := [.int v1]) (r := []) ri_256_28 rfl (by decide) rm_257.2.2.2 rm_257.2.2.1 rfl rfl rfl (by decide) (ro_kf (kd_163 (xl_228 hL q2))) (Nat.le_of_ble_eq_true rfl) (by decide) (by decide) (xs_257 (X := X) (xl_228 hL q2) q3) ?_
      rintro _ _ ⟨e1, e2⟩
      rw [e1, e2]
      show ro_w X _ 256 _ 31 [(0, .ref 163), (1, .int v1), (2, .int v2)] [] (xm_257 (xm_228 M) v1) (0, 0)
      refine rs_iload_n ri_256_31 rfl rfl ?_
      refine rs_if_ne (t := 42) ri_256_32 rfl rfl (fun h5 => ?_) (fun h5 => ?_)
      · skip
        refine rs_aload_n ri_256_42 rfl rfl ?_
        refine rs_gf (v := .long ((xm_257 (xm_228 M) v1).2.2.1 163 34)) ri_256_43 rfl (by decide) (ro_kf (kd_163 (xl_257 (xl_228 hL q2) q3))) rfl rfl ?_
        refine rs_lret ri_256_46 rm_256.2.1 (by decide) ?_
        exact ⟨by unfold xf_256; first | (simp only [if_pos h1, if_pos h2, if_neg h5]; done) | rfl, by unfold xm_256; first | (simp only [if_pos h1, if_pos h2, if_neg h5]; done) | rfl⟩
      · skip
        refine rs_aload_n ri_256_35 rfl rfl ?_
        refine rs_gf (v := .long ((xm_257 (xm_228 M) v1).2.2.1 163 33)) ri_256_36 rfl (by decide) (ro_kf (kd_163 (xl_257 (xl_228 hL q2) q3))) rfl rfl ?_
        refine rs_goto (t := 46) ri_256_39 rfl ?_
        refine rs_lret ri_256_46 rm_256.2.1 (by decide) ?_
        exact ⟨by unfold xf_256; first | (simp only [if_pos h1, if_pos h2, if_pos h5]; done) | rfl, by unfold xm_256; first | (simp only [if_pos h1, if_pos h2, if_pos h5]; done) | rfl⟩
    · have hp := hp.2 h2
      refine rs_ldc2 (v := (-9223372036854775808 : Int64)) ri_256_18 rfl rfl rfl ?_
      refine rs_lret ri_256_21 rm_256.2.1 (by decide) ?_
      exact ⟨by unfold xf_256; first | (simp only [if_pos h1, if_neg h2]; done) | rfl, by unfold xm_256; first | (simp only [if_pos h1, if_neg h2]; done) | rfl⟩
theorem xl_256 {M : ro_Mm} {v1 : Int32} {v2 : Int32} (hL : ro_lay M) (hp : xp_256 M v1 v2) : ro_lay (xm_256 M v1 v2) := by
  unfold xp_256 at hp
  unfold xm_256
  by_cases hz : (xf_195 M v1 (0 : Int32) (2 : Int32))
  · have hp := hp.1 hz
    rw [if_pos hz]
    by_cases hz : (xf_195 M v2 (0 : Int32) (1 : Int32))
    · have hp := hp.1 hz
      rw [if_pos hz]
      obtain ⟨q2, hp⟩ := hp
      obtain ⟨q3, hp⟩ := hp
      by_cases hz : v2 = (0 : Int32)
      · skip
        exact (xl_257 (xl_228 hL q2) q3)
      · skip
        exact (xl_257 (xl_228 hL q2) q3)
    · have hp := hp.2 hz
      rw [if_neg hz]
      exact hL
  · have hp := hp.2 hz
    rw [if_neg hz]
    exact hL
/-- RefusedOnceModel.pay(IIII)J -/
noncomputable def xf_251 (M : ro_Mm) (v1 : Int32) (v2 : Int32) (v3 : Int32) (v4 : Int32) : Int64 := (if (xf_227 M v1) then (if (xf_195 M v2 (0 : Int32) (8 : Int32)) then (if (xf_195 M v3 (0 : Int32) (8 : Int32)) then (if (xf_195 M v4 (0 : Int32) (1 : Int32)) then (xf_254 (xm_252 M v1 v2) ((xm_252 M v1 v2).2.2.1 183 (v3.toNatClampNeg)) (xf_252 M v1 v2) v4) else (-9223372036854775808 : Int64)) else (-9223372036854775808 : Int64)) else (-9223372036854775808 : Int64)) else (-9223372036854775808 : Int64))
noncomputable def xm_251 (M : ro_Mm) (v1 : Int32) (v2 : Int32) (v3 : Int32) (v4 : Int32) : ro_Mm := (if (xf_227 M v1) then (if (xf_195 M v2 (0 : Int32) (8 : Int32)) then (if (xf_195 M v3 (0 : Int32) (8 : Int32)) then (if (xf_195 M v4 (0 : Int32) (1 : Int32)) then (xm_252 M v1 v2) else M) else M) else M) else M)
def xp_251 (M : ro_Mm) (v1 : Int32) (v2 : Int32) (v3 : Int32) (v4 : Int32) : Prop := (((xf_227 M v1) → (((xf_195 M v2 (0 : Int32) (8 : Int32)) → (((xf_195 M v3 (0 : Int32) (8 : Int32)) → (((xf_195 M v4 (0 : Int32) (1 : Int32)) → (xp_252 M v1 v2 ∧ (vp_in v3 9 ∧ (xp_254 (xm_252 M v1 v2) ((xm_252 M v1 v2).2.2.1 183 (v3.toNatClampNeg)) (xf_252 M v1 v2) v4 ∧ True)))) ∧ (¬ ((xf_195 M v4 (0 : Int32) (1 : Int32))) → True))) ∧ (¬ ((xf_195 M v3 (0 : Int32) (8 : Int32))) → True))) ∧ (¬ ((xf_195 M v2 (0 : Int32) (8 : Int32))) → True))) ∧ (¬ ((xf_227 M v1)) → True))
theorem xs_251 {X : ro_Sx} {M : ro_Mm} {v1 : Int32} {v2 : Int32} {v3 : Int32} {v4 : Int32} (hL : ro_lay M) (hp : xp_251 M v1 v2 v3 v4) : ro_cwp X 702 251 [.ref 163, .int v1, .int v2, .int v3, .int v4] M (fun v M2 => v = some (.long (xf_251 M v1 v2 v3 v4)) ∧ M2 = xm_251 M v1 v2 v3 v4) := by
  refine rs_begin (lv0 := [(0, .ref 163), (1, .int v1), (2, .int v2), (3, .int v3), (4, .int v4)]) (by decide) rfl (by rw [rm_251.1]; exact Nat.le_of_ble_eq_true rfl) rfl ?_
  unfold xp_251 at hp
  refine rs_aload_n ri_251_0 rfl rfl ?_
  refine rs_iload_n ri_251_1 rfl rfl ?_
  refine rs_virt (As := [.int v1]) (r := []) ri_251_2 rfl (by decide) rm_227.2.2.2 rm_227.2.2.1 rfl rfl rfl (by decide) (ro_kf (kd_163 hL)) (Nat.le_of_ble_eq_true rfl) (by decide) (by decide) (xs_227 (X := X) hL) ?_
  rintro _ _ ⟨e1, e2⟩
  rw [e1, e2]
  show ro_w X _ 251 _ 5 [(0, .ref 163), (1, .int v1), (2, .int v2), (3, .int v3), (4, .int v4)] [.int (ro_b (xf_227 M v1))] M (0, 0)
  refine rs_ifeq_c (t := 38) ri_251_5 rfl rfl (fun h1 => ?_) (fun h1 => ?_)
  · have hp := hp.2 h1
    refine rs_ldc2 (v := (-9223372036854775808 : Int64)) ri_251_38 rfl rfl rfl ?_
    refine rs_lret ri_251_41 rm_251.2.1 (by decide) ?_
    exact ⟨by unfold xf_251; first | (simp only [if_neg h1]; done) | rfl, by unfold xm_251; first | (simp only [if_neg h1]; done) | rfl⟩
  · have hp := hp.1 h1
    refine rs_iload_n ri_251_8 rfl rfl ?_
    refine rs_iconst (v := (0 : Int32)) ri_251_9 rfl (by decide) ?_
    refine rs_bipush (v := (8 : Int32)) ri_251_10 rfl (by decide) ?_
    refine rs_stat (As := [.int v2, .int (0 : Int32), .int (8 : Int32)]) (r := []) ri_251_12 rfl rm_195.2.2.2 rfl rfl rfl (Nat.le_of_ble_eq_true rfl) (by decide) (by decide) (xs_195 (X := X) hL) ?_
    rintro _ _ ⟨e1, e2⟩
    rw [e1, e2]
    show ro_w X _ 251 _ 15 [(0, .ref 163), (1, .int v1), (2, .int v2), (3, .int v3), (4, .int v4)] [.int (ro_b (xf_195 M v2 (0 : Int32) (8 : Int32)))] M (0, 0)
    refine rs_ifeq_c (t := 38) ri_251_15 rfl rfl (fun h2 => ?_) (fun h2 => ?_)
    · have hp := hp.2 h2
      refine rs_ldc2 (v := (-9223372036854775808 : Int64)) ri_251_38 rfl rfl rfl ?_
      refine rs_lret ri_251_41 rm_251.2.1 (by decide) ?_
      exact ⟨by unfold xf_251; first | (simp only [if_pos h1, if_neg h2]; done) | rfl, by unfold xm_251; first | (simp only [if_pos h1, if_neg h2]; done) | rfl⟩
    · have hp := hp.1 h2
      refine rs_iload_n ri_251_18 rfl rfl ?_
      refine rs_iconst (v := (0 : Int32)) ri_251_19 rfl (by decide) ?_
      refine rs_bipush (v := (8 : Int32)) ri_251_20 rfl (by decide) ?_
      refine rs_stat (As := [.int v3, .int (0 : Int32), .int (8 : Int32)]) (r := []) ri_251_22 rfl rm_195.2.2.2 rfl rfl rfl (Nat.le_of_ble_eq_true rfl) (by decide) (by decide) (xs_195 (X := X) hL) ?_
      rintro _ _ ⟨e1, e2⟩
      rw [e1, e2]
      show ro_w X _ 251 _ 25 [(0, .ref 163), (1, .int v1), (2, .int v2), (3, .int v3), (4, .int v4)] [.int (ro_b (xf_195 M v3 (0 : Int32) (8 : Int32)))] M (0, 0)
      refine rs_ifeq_c (t := 38) ri_251_25 rfl rfl (fun h3 => ?_) (fun h3 => ?_)
      · have hp := hp.2 h3
        refine rs_ldc2 (v := (-9223372036854775808 : Int64)) ri_251_38 rfl rfl rfl ?_
        refine rs_lret ri_251_41 rm_251.2.1 (by decide) ?_
        exact ⟨by unfold xf_251; first | (simp only [if_pos h1, if_pos h2, if_neg h3]; done) | rfl, by unfold xm_251; first | (simp only [if_pos h1, if_pos h2, if_neg h3]; done) | rfl⟩
      · have hp := hp.1 h3
        refine rs_iload ri_251_28 rfl rfl ?_
        refine rs_iconst (v := (0 : Int32)) ri_251_30 rfl (by decide) ?_
        refine rs_iconst (v := (1 : Int32)) ri_251_31 rfl (by decide) ?_
        refine rs_stat (As := [.int v4, .int (0 : Int32), .int (1 : Int32)]) (r := []) ri_251_32 rfl rm_195.2.2.2 rfl rfl rfl (Nat.le_of_ble_eq_true rfl) (by decide) (by decide) (xs_195 (X := X) hL) ?_
        rintro _ _ ⟨e1, e2⟩
        rw [e1, e2]
        show ro_w X _ 251 _ 35 [(0, .ref 163), (1, .int v1), (2, .int v2), (3, .int v3), (4, .int v4)] [.int (ro_b (xf_195 M v4 (0 : Int32) (1 : Int32)))] M (0, 0)
        refine rs_ifne_c (t := 42) ri_251_35 rfl rfl (fun h4 => ?_) (fun h4 => ?_)
        · have hp := hp.1 h4
          refine rs_aload_n ri_251_42 rfl rfl ?_
          refine rs_iload_n ri_251_43 rfl rfl ?_
          refine rs_iload_n ri_251_44 rfl rfl ?_
          obtain ⟨q4, hp⟩ := hp
          refine rs_virt (As := [.int v1, .int v2]) (r := []) ri_251_45 rfl (by decide) rm_252.2.2.2 rm_252.2.2.1 rfl rfl rfl (by decide) (ro_kf (kd_163 hL)) (Nat.le_of_ble_eq_true rfl) (by decide) (by decide) (xs_252 (X := X) hL q4) ?_
          rintro _ _ ⟨e1, e2⟩
          rw [e1, e2]
          show ro_w X _ 251 _ 48 [(0, .ref 163), (1, .int v1), (2, .int v2), (3, .int v3), (4, .int v4)] [.long (xf_252 M v1 v2)] (xm_252 M v1 v2) (0, 0)
          refine rs_lstore (lv2 := [(5, .long (xf_252 M v1 v2)), (0, .ref 163), (1, .int v1), (2, .int v2), (3, .int v3), (4, .int v4)]) ri_251_48 rfl rm_251.1 (by decide) rfl ?_
          refine rs_aload_n ri_251_50 rfl rfl ?_
          refine rs_gf (v := .ref 183) ri_251_51 rfl (by decide) (ro_kf (kd_163 (xl_252 hL q4))) rfl (rf_163_32 (xl_252 hL q4)) ?_
          refine rs_iload_n ri_251_54 rfl rfl ?_
          obtain ⟨q5, hp⟩ := hp
          refine rs_lald (v := ((xm_252 M v1 v2).2.2.1 183 (v3.toNatClampNeg))) ri_251_55 rfl (by decide) (kd_183 (xl_252 hL q4)) q5 rfl ?_
          refine rs_lload ri_251_56 rfl rfl ?_
          refine rs_iload ri_251_58 rfl rfl ?_
          obtain ⟨q6, hp⟩ := hp
          refine rs_stat (As := [.long ((xm_252 M v1 v2).2.2.1 183 (v3.toNatClampNeg)), .long (xf_252 M v1 v2), .int v4]) (r := []) ri_251_60 rfl rm_254.2.2.2 rfl rfl rfl (Nat.le_of_ble_eq_true rfl) (by decide) (by decide) (xs_254 (X := X) (xl_252 hL q4) q6) ?_
          rintro _ _ ⟨e1, e2⟩
          rw [e1, e2]
          show ro_w X _ 251 _ 63 [(5, .long (xf_252 M v1 v2)), (0, .ref 163), (1, .int v1), (2, .int v2), (3, .int v3), (4, .int v4)] [.long (xf_254 (xm_252 M v1 v2) ((xm_252 M v1 v2).2.2.1 183 (v3.toNatClampNeg)) (xf_252 M v1 v2) v4)] (xm_252 M v1 v2) (0, 0)
          refine rs_lret ri_251_63 rm_251.2.1 (by decide) ?_
          exact ⟨by unfold xf_251; first | (simp only [if_pos h1, if_pos h2, if_pos h3, if_pos h4]; done) | rfl, by unfold xm_251; first | (simp only [if_pos h1, if_pos h2, if_pos h3, if_pos h4]; done) | rfl⟩
        · have hp := hp.2 h4
          refine rs_ldc2 (v := (-9223372036854775808 : Int64)) ri_251_38 rfl rfl rfl ?_
          refine rs_lret ri_251_41 rm_251.2.1 (by decide) ?_
          exact ⟨by unfold xf_251; first | (simp only [if_pos h1, if_pos h2, if_pos h3, if_neg h4]; done) | rfl, by unfold xm_251; first | (simp only [if_pos h1, if_pos h2, if_pos h3, if_neg h4]; done) | rfl⟩
theorem xl_251 {M : ro_Mm} {v1 : Int32} {v2 : Int32} {v3 : Int32} {v4 : Int32} (hL : ro_lay M) (hp : xp_251 M v1 v2 v3 v4) : ro_lay (xm_251 M v1 v2 v3 v4) := by
  unfold xp_251 at hp
  unfold xm_251
  by_cases hz : (xf_227 M v1)
  · have hp := hp.1 hz
    rw [if_pos hz]
    by_cases hz : (xf_195 M v2 (0 : Int32) (8 : Int32))
    · have hp := hp.1 hz
      rw [if_pos hz]
      by_cases hz : (xf_195 M v3 (0 : Int32) (8 : Int32))
      · have hp := hp.1 hz
        rw [if_pos hz]
        by_cases hz : (xf_195 M v4 (0 : Int32) (1 : Int32))
        · have hp := hp.1 hz
          rw [if_pos hz]
          obtain ⟨q4, hp⟩ := hp
          obtain ⟨q5, hp⟩ := hp
          obtain ⟨q6, hp⟩ := hp
          exact (xl_252 hL q4)
        · have hp := hp.2 hz
          rw [if_neg hz]
          exact hL
      · have hp := hp.2 hz
        rw [if_neg hz]
        exact hL
    · have hp := hp.2 hz
      rw [if_neg hz]
      exact hL
  · have hp := hp.2 hz
    rw [if_neg hz]
    exact hL
