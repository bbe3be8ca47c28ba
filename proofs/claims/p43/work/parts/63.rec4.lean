/-! methods that call themselves, by program (wip/whole/walk3.py, mk47.py) -/
/-- RefusedOnceModel.goBehind(II)V -/
noncomputable def xmb_269 (F269 : ro_Mm → Int32 → Int32 → ro_Mm) (M : ro_Mm) (v1 : Int32) (v2 : Int32) : ro_Mm := (if v1 = (M.2.1 163 37) then (if (xf_270 M) then (xm_271 M v2) else M) else (if (ro_irem (xf_238 M (M.2.1 163 35) v1) (2 : Int32)) = (1 : Int32) then (if (xf_240 M ((xf_238 M (M.2.1 163 35) v1) / (20 : Int32)) ((ro_irem (xf_238 M (M.2.1 163 35) v1) (20 : Int32)) / (2 : Int32))) then (xm_242 (F269 (xm_242 M ((xf_238 M (M.2.1 163 35) v1) / (20 : Int32)) ((ro_irem (xf_238 M (M.2.1 163 35) v1) (20 : Int32)) / (2 : Int32))) (v1 + (1 : Int32)) v2) ((ro_irem (xf_238 M (M.2.1 163 35) v1) (20 : Int32)) / (2 : Int32)) ((xf_238 M (M.2.1 163 35) v1) / (20 : Int32))) else M) else (if (xf_241 M ((xf_238 M (M.2.1 163 35) v1) / (20 : Int32)) ((ro_irem (xf_238 M (M.2.1 163 35) v1) (20 : Int32)) / (2 : Int32))) then (ro_sI (ro_sI (F269 (xm_244 (xm_245 (F269 (xm_245 M ((xf_238 M (M.2.1 163 35) v1) / (20 : Int32)) ((ro_irem (xf_238 M (M.2.1 163 35) v1) (20 : Int32)) / (2 : Int32))) (v1 + (1 : Int32)) v2) ((ro_irem (xf_238 M (M.2.1 163 35) v1) (20 : Int32)) / (2 : Int32)) ((xf_238 M (M.2.1 163 35) v1) / (20 : Int32))) ((xf_238 M (M.2.1 163 35) v1) / (20 : Int32))) (v1 + (1 : Int32)) (v2 ||| ((1 : Int32) <<< (v1 &&& 31)))) 181 (((xf_238 M (M.2.1 163 35) v1) / (20 : Int32)).toNatClampNeg) (((F269 (xm_244 (xm_245 (F269 (xm_245 M ((xf_238 M (M.2.1 163 35) v1) / (20 : Int32)) ((ro_irem (xf_238 M (M.2.1 163 35) v1) (20 : Int32)) / (2 : Int32))) (v1 + (1 : Int32)) v2) ((ro_irem (xf_238 M (M.2.1 163 35) v1) (20 : Int32)) / (2 : Int32)) ((xf_238 M (M.2.1 163 35) v1) / (20 : Int32))) ((xf_238 M (M.2.1 163 35) v1) / (20 : Int32))) (v1 + (1 : Int32)) (v2 ||| ((1 : Int32) <<< (v1 &&& 31)))).2.1 181 (((xf_238 M (M.2.1 163 35) v1) / (20 : Int32)).toNatClampNeg)) + (1 : Int32))) 182 (((xf_238 M (M.2.1 163 35) v1) / (20 : Int32)).toNatClampNeg) (((F269 (xm_244 (xm_245 (F269 (xm_245 M ((xf_238 M (M.2.1 163 35) v1) / (20 : Int32)) ((ro_irem (xf_238 M (M.2.1 163 35) v1) (20 : Int32)) / (2 : Int32))) (v1 + (1 : Int32)) v2) ((ro_irem (xf_238 M (M.2.1 163 35) v1) (20 : Int32)) / (2 : Int32)) ((xf_238 M (M.2.1 163 35) v1) / (20 : Int32))) ((xf_238 M (M.2.1 163 35) v1) / (20 : Int32))) (v1 + (1 : Int32)) (v2 ||| ((1 : Int32) <<< (v1 &&& 31)))).2.1 182 (((xf_238 M (M.2.1 163 35) v1) / (20 : Int32)).toNatClampNeg)) - (1 : Int32))) else M)))
def xpb_269 (F269 : ro_Mm → Int32 → Int32 → ro_Mm) (P269 : ro_Mm → Int32 → Int32 → Prop) (M : ro_Mm) (v1 : Int32) (v2 : Int32) : Prop := ((v1 = (M.2.1 163 37) → (xp_270 M ∧ (((xf_270 M) → (xp_271 M v2 ∧ True)) ∧ (¬ ((xf_270 M)) → True)))) ∧ (¬ (v1 = (M.2.1 163 37)) → (xp_238 M (M.2.1 163 35) v1 ∧ (xp_238 M (M.2.1 163 35) v1 ∧ (xp_238 M (M.2.1 163 35) v1 ∧ (((ro_irem (xf_238 M (M.2.1 163 35) v1) (2 : Int32)) = (1 : Int32) → (xp_240 M ((xf_238 M (M.2.1 163 35) v1) / (20 : Int32)) ((ro_irem (xf_238 M (M.2.1 163 35) v1) (20 : Int32)) / (2 : Int32)) ∧ (((xf_240 M ((xf_238 M (M.2.1 163 35) v1) / (20 : Int32)) ((ro_irem (xf_238 M (M.2.1 163 35) v1) (20 : Int32)) / (2 : Int32))) → (xp_242 M ((xf_238 M (M.2.1 163 35) v1) / (20 : Int32)) ((ro_irem (xf_238 M (M.2.1 163 35) v1) (20 : Int32)) / (2 : Int32)) ∧ (P269 (xm_242 M ((xf_238 M (M.2.1 163 35) v1) / (20 : Int32)) ((ro_irem (xf_238 M (M.2.1 163 35) v1) (20 : Int32)) / (2 : Int32))) (v1 + (1 : Int32)) v2 ∧ (xp_242 (F269 (xm_242 M ((xf_238 M (M.2.1 163 35) v1) / (20 : Int32)) ((ro_irem (xf_238 M (M.2.1 163 35) v1) (20 : Int32)) / (2 : Int32))) (v1 + (1 : Int32)) v2) ((ro_irem (xf_238 M (M.2.1 163 35) v1) (20 : Int32)) / (2 : Int32)) ((xf_238 M (M.2.1 163 35) v1) / (20 : Int32)) ∧ True)))) ∧ (¬ ((xf_240 M ((xf_238 M (M.2.1 163 35) v1) / (20 : Int32)) ((ro_irem (xf_238 M (M.2.1 163 35) v1) (20 : Int32)) / (2 : Int32)))) → True)))) ∧ (¬ ((ro_irem (xf_238 M (M.2.1 163 35) v1) (2 : Int32)) = (1 : Int32)) → (xp_241 M ((xf_238 M (M.2.1 163 35) v1) / (20 : Int32)) ((ro_irem (xf_238 M (M.2.1 163 35) v1) (20 : Int32)) / (2 : Int32)) ∧ (((xf_241 M ((xf_238 M (M.2.1 163 35) v1) / (20 : Int32)) ((ro_irem (xf_238 M (M.2.1 163 35) v1) (20 : Int32)) / (2 : Int32))) → (xp_245 M ((xf_238 M (M.2.1 163 35) v1) / (20 : Int32)) ((ro_irem (xf_238 M (M.2.1 163 35) v1) (20 : Int32)) / (2 : Int32)) ∧ (P269 (xm_245 M ((xf_238 M (M.2.1 163 35) v1) / (20 : Int32)) ((ro_irem (xf_238 M (M.2.1 163 35) v1) (20 : Int32)) / (2 : Int32))) (v1 + (1 : Int32)) v2 ∧ (xp_245 (F269 (xm_245 M ((xf_238 M (M.2.1 163 35) v1) / (20 : Int32)) ((ro_irem (xf_238 M (M.2.1 163 35) v1) (20 : Int32)) / (2 : Int32))) (v1 + (1 : Int32)) v2) ((ro_irem (xf_238 M (M.2.1 163 35) v1) (20 : Int32)) / (2 : Int32)) ((xf_238 M (M.2.1 163 35) v1) / (20 : Int32)) ∧ (xp_244 (xm_245 (F269 (xm_245 M ((xf_238 M (M.2.1 163 35) v1) / (20 : Int32)) ((ro_irem (xf_238 M (M.2.1 163 35) v1) (20 : Int32)) / (2 : Int32))) (v1 + (1 : Int32)) v2) ((ro_irem (xf_238 M (M.2.1 163 35) v1) (20 : Int32)) / (2 : Int32)) ((xf_238 M (M.2.1 163 35) v1) / (20 : Int32))) ((xf_238 M (M.2.1 163 35) v1) / (20 : Int32)) ∧ (P269 (xm_244 (xm_245 (F269 (xm_245 M ((xf_238 M (M.2.1 163 35) v1) / (20 : Int32)) ((ro_irem (xf_238 M (M.2.1 163 35) v1) (20 : Int32)) / (2 : Int32))) (v1 + (1 : Int32)) v2) ((ro_irem (xf_238 M (M.2.1 163 35) v1) (20 : Int32)) / (2 : Int32)) ((xf_238 M (M.2.1 163 35) v1) / (20 : Int32))) ((xf_238 M (M.2.1 163 35) v1) / (20 : Int32))) (v1 + (1 : Int32)) (v2 ||| ((1 : Int32) <<< (v1 &&& 31))) ∧ (vp_in ((xf_238 M (M.2.1 163 35) v1) / (20 : Int32)) 6 ∧ (vp_in ((xf_238 M (M.2.1 163 35) v1) / (20 : Int32)) 6 ∧ (vp_in ((xf_238 M (M.2.1 163 35) v1) / (20 : Int32)) 6 ∧ (vp_in ((xf_238 M (M.2.1 163 35) v1) / (20 : Int32)) 6 ∧ True)))))))))) ∧ (¬ ((xf_241 M ((xf_238 M (M.2.1 163 35) v1) / (20 : Int32)) ((ro_irem (xf_238 M (M.2.1 163 35) v1) (20 : Int32)) / (2 : Int32)))) → True))))))))))
theorem xlb_269 {X : ro_Sx} {k : Nat} {F269 : ro_Mm → Int32 → Int32 → ro_Mm} {P269 : ro_Mm → Int32 → Int32 → Prop} (hF269 : ∀ {M : ro_Mm} {v1 : Int32} {v2 : Int32}, ro_lay M → P269 M v1 v2 → ro_cwp X k 269 [.ref 163, .int v1, .int v2] M (fun v M2 => v = none ∧ M2 = (F269 M v1 v2))) (hl269 : ∀ {M : ro_Mm} {v1 : Int32} {v2 : Int32}, ro_lay M → P269 M v1 v2 → ro_lay (F269 M v1 v2)) {M : ro_Mm} {v1 : Int32} {v2 : Int32} (hL : ro_lay M) (hp : xpb_269 F269 P269 M v1 v2) : ro_lay (xmb_269 F269 M v1 v2) := by
  unfold xpb_269 at hp
  unfold xmb_269
  by_cases hz : v1 = (M.2.1 163 37)
  · have hp := hp.1 hz
    rw [if_pos hz]
    obtain ⟨q21, hp⟩ := hp
    by_cases hz : (xf_270 M)
    · have hp := hp.1 hz
      rw [if_pos hz]
      obtain ⟨q23, hp⟩ := hp
      first | exact (xl_271 hL q23) | (have hl := (xl_271 hL q23); exact hl)
    · have hp := hp.2 hz
      rw [if_neg hz]
      first | exact hL | (have hl := hL; exact hl)
  · have hp := hp.2 hz
    rw [if_neg hz]
    obtain ⟨q1, hp⟩ := hp
    obtain ⟨q2, hp⟩ := hp
    obtain ⟨q3, hp⟩ := hp
    by_cases hz : (ro_irem (xf_238 M (M.2.1 163 35) v1) (2 : Int32)) = (1 : Int32)
    · have hp := hp.1 hz
      rw [if_pos hz]
      obtain ⟨q16, hp⟩ := hp
      by_cases hz : (xf_240 M ((xf_238 M (M.2.1 163 35) v1) / (20 : Int32)) ((ro_irem (xf_238 M (M.2.1 163 35) v1) (20 : Int32)) / (2 : Int32)))
      · have hp := hp.1 hz
        rw [if_pos hz]
        obtain ⟨q18, hp⟩ := hp
        obtain ⟨q19, hp⟩ := hp
        obtain ⟨q20, hp⟩ := hp
        first | exact (xl_242 (hl269 (xl_242 hL q18) q19) q20) | (have hl := (xl_242 (hl269 (xl_242 hL q18) q19) q20); exact hl)
      · have hp := hp.2 hz
        rw [if_neg hz]
        first | exact hL | (have hl := hL; exact hl)
    · have hp := hp.2 hz
      rw [if_neg hz]
      obtain ⟨q5, hp⟩ := hp
      by_cases hz : (xf_241 M ((xf_238 M (M.2.1 163 35) v1) / (20 : Int32)) ((ro_irem (xf_238 M (M.2.1 163 35) v1) (20 : Int32)) / (2 : Int32)))
      · have hp := hp.1 hz
        rw [if_pos hz]
        obtain ⟨q7, hp⟩ := hp
        obtain ⟨q8, hp⟩ := hp
        obtain ⟨q9, hp⟩ := hp
        obtain ⟨q10, hp⟩ := hp
        obtain ⟨q11, hp⟩ := hp
        obtain ⟨q12, hp⟩ := hp
        obtain ⟨q13, hp⟩ := hp
        obtain ⟨q14, hp⟩ := hp
        obtain ⟨q15, hp⟩ := hp
        first | exact (hl269 (xl_244 (xl_245 (hl269 (xl_245 hL q7) q8) q9) q10) q11) | (have hl := (hl269 (xl_244 (xl_245 (hl269 (xl_245 hL q7) q8) q9) q10) q11); exact hl)
      · have hp := hp.2 hz
        rw [if_neg hz]
        first | exact hL | (have hl := hL; exact hl)
noncomputable def xr_bhd : Nat → (ro_Mm → Int32 → Int32 → ro_Mm)
  | 0 => fun M v1 v2 => M
  | n + 1 => fun M v1 v2 => (xmb_269 (xr_bhd n) M v1 v2)
def xpr_bhd : Nat → (ro_Mm → Int32 → Int32 → Prop)
  | 0 => fun _ _ _ => False
  | n + 1 => fun M v1 v2 => xpb_269 (xr_bhd n) (xpr_bhd n) M v1 v2
noncomputable def xm_269 (M : ro_Mm) (v1 : Int32) (v2 : Int32) : ro_Mm := (xr_bhd rc_N M v1 v2)
def xp_269 (M : ro_Mm) (v1 : Int32) (v2 : Int32) : Prop := xpr_bhd rc_N M v1 v2
/-- RefusedOnceModel.goPay(IIIIJ)V -/
noncomputable def xmb_253 (F253 : ro_Mm → Int32 → Int32 → Int32 → Int32 → Int64 → ro_Mm) (M : ro_Mm) (v1 : Int32) (v2 : Int32) (v3 : Int32) (v4 : Int32) (v5 : Int64) : ro_Mm := (if (lg_cmp v5 (0 : Int64)) = (0 : Int32) then M else (if v3 = (0 : Int32) then (ro_sJ M 183 (v4.toNatClampNeg) ((M.2.2.1 183 (v4.toNatClampNeg)) + v5)) else (if (xf_241 M v1 v2) then (xm_245 (F253 (xm_245 (ro_sI (ro_sI (F253 (xm_244 (xm_229 M v1 v2) v1) v1 v2 (v3 - (1 : Int32)) (v4 + (1 : Int32)) (v5 * ((xf_229 M v1 v2).toInt64))) 181 (v1.toNatClampNeg) (((F253 (xm_244 (xm_229 M v1 v2) v1) v1 v2 (v3 - (1 : Int32)) (v4 + (1 : Int32)) (v5 * ((xf_229 M v1 v2).toInt64))).2.1 181 (v1.toNatClampNeg)) + (1 : Int32))) 182 (v1.toNatClampNeg) (((F253 (xm_244 (xm_229 M v1 v2) v1) v1 v2 (v3 - (1 : Int32)) (v4 + (1 : Int32)) (v5 * ((xf_229 M v1 v2).toInt64))).2.1 182 (v1.toNatClampNeg)) - (1 : Int32))) v1 v2) v1 v2 (v3 - (1 : Int32)) v4 (v5 * (((12 : Int32) - (xf_229 M v1 v2)).toInt64))) v2 v1) else (F253 M v1 v2 (v3 - (1 : Int32)) v4 (v5 * (12 : Int64))))))
def xpb_253 (F253 : ro_Mm → Int32 → Int32 → Int32 → Int32 → Int64 → ro_Mm) (P253 : ro_Mm → Int32 → Int32 → Int32 → Int32 → Int64 → Prop) (M : ro_Mm) (v1 : Int32) (v2 : Int32) (v3 : Int32) (v4 : Int32) (v5 : Int64) : Prop := (((lg_cmp v5 (0 : Int64)) = (0 : Int32) → True) ∧ (¬ ((lg_cmp v5 (0 : Int64)) = (0 : Int32)) → ((v3 = (0 : Int32) → (vp_in v4 9 ∧ (vp_in v4 9 ∧ True))) ∧ (¬ (v3 = (0 : Int32)) → (xp_241 M v1 v2 ∧ (((xf_241 M v1 v2) → (xp_229 M v1 v2 ∧ (xp_244 (xm_229 M v1 v2) v1 ∧ (P253 (xm_244 (xm_229 M v1 v2) v1) v1 v2 (v3 - (1 : Int32)) (v4 + (1 : Int32)) (v5 * ((xf_229 M v1 v2).toInt64)) ∧ (vp_in v1 6 ∧ (vp_in v1 6 ∧ (vp_in v1 6 ∧ (vp_in v1 6 ∧ (xp_245 (ro_sI (ro_sI (F253 (xm_244 (xm_229 M v1 v2) v1) v1 v2 (v3 - (1 : Int32)) (v4 + (1 : Int32)) (v5 * ((xf_229 M v1 v2).toInt64))) 181 (v1.toNatClampNeg) (((F253 (xm_244 (xm_229 M v1 v2) v1) v1 v2 (v3 - (1 : Int32)) (v4 + (1 : Int32)) (v5 * ((xf_229 M v1 v2).toInt64))).2.1 181 (v1.toNatClampNeg)) + (1 : Int32))) 182 (v1.toNatClampNeg) (((F253 (xm_244 (xm_229 M v1 v2) v1) v1 v2 (v3 - (1 : Int32)) (v4 + (1 : Int32)) (v5 * ((xf_229 M v1 v2).toInt64))).2.1 182 (v1.toNatClampNeg)) - (1 : Int32))) v1 v2 ∧ (P253 (xm_245 (ro_sI (ro_sI (F253 (xm_244 (xm_229 M v1 v2) v1) v1 v2 (v3 - (1 : Int32)) (v4 + (1 : Int32)) (v5 * ((xf_229 M v1 v2).toInt64))) 181 (v1.toNatClampNeg) (((F253 (xm_244 (xm_229 M v1 v2) v1) v1 v2 (v3 - (1 : Int32)) (v4 + (1 : Int32)) (v5 * ((xf_229 M v1 v2).toInt64))).2.1 181 (v1.toNatClampNeg)) + (1 : Int32))) 182 (v1.toNatClampNeg) (((F253 (xm_244 (xm_229 M v1 v2) v1) v1 v2 (v3 - (1 : Int32)) (v4 + (1 : Int32)) (v5 * ((xf_229 M v1 v2).toInt64))).2.1 182 (v1.toNatClampNeg)) - (1 : Int32))) v1 v2) v1 v2 (v3 - (1 : Int32)) v4 (v5 * (((12 : Int32) - (xf_229 M v1 v2)).toInt64)) ∧ (xp_245 (F253 (xm_245 (ro_sI (ro_sI (F253 (xm_244 (xm_229 M v1 v2) v1) v1 v2 (v3 - (1 : Int32)) (v4 + (1 : Int32)) (v5 * ((xf_229 M v1 v2).toInt64))) 181 (v1.toNatClampNeg) (((F253 (xm_244 (xm_229 M v1 v2) v1) v1 v2 (v3 - (1 : Int32)) (v4 + (1 : Int32)) (v5 * ((xf_229 M v1 v2).toInt64))).2.1 181 (v1.toNatClampNeg)) + (1 : Int32))) 182 (v1.toNatClampNeg) (((F253 (xm_244 (xm_229 M v1 v2) v1) v1 v2 (v3 - (1 : Int32)) (v4 + (1 : Int32)) (v5 * ((xf_229 M v1 v2).toInt64))).2.1 182 (v1.toNatClampNeg)) - (1 : Int32))) v1 v2) v1 v2 (v3 - (1 : Int32)) v4 (v5 * (((12 : Int32) - (xf_229 M v1 v2)).toInt64))) v2 v1 ∧ True))))))))))) ∧ (¬ ((xf_241 M v1 v2)) → (P253 M v1 v2 (v3 - (1 : Int32)) v4 (v5 * (12 : Int64)) ∧ True))))))))
theorem xlb_253 {X : ro_Sx} {k : Nat} {F253 : ro_Mm → Int32 → Int32 → Int32 → Int32 → Int64 → ro_Mm} {P253 : ro_Mm → Int32 → Int32 → Int32 → Int32 → Int64 → Prop} (hF253 : ∀ {M : ro_Mm} {v1 : Int32} {v2 : Int32} {v3 : Int32} {v4 : Int32} {v5 : Int64}, ro_lay M → P253 M v1 v2 v3 v4 v5 → ro_cwp X k 253 [.ref 163, .int v1, .int v2, .int v3, .int v4, .long v5] M (fun v M2 => v = none ∧ M2 = (F253 M v1 v2 v3 v4 v5))) (hl253 : ∀ {M : ro_Mm} {v1 : Int32} {v2 : Int32} {v3 : Int32} {v4 : Int32} {v5 : Int64}, ro_lay M → P253 M v1 v2 v3 v4 v5 → ro_lay (F253 M v1 v2 v3 v4 v5)) {M : ro_Mm} {v1 : Int32} {v2 : Int32} {v3 : Int32} {v4 : Int32} {v5 : Int64} (hL : ro_lay M) (hp : xpb_253 F253 P253 M v1 v2 v3 v4 v5) : ro_lay (xmb_253 F253 M v1 v2 v3 v4 v5) := by
  unfold xpb_253 at hp
  unfold xmb_253
  by_cases hz : (lg_cmp v5 (0 : Int64)) = (0 : Int32)
  · have hp := hp.1 hz
    rw [if_pos hz]
    first | exact hL | (have hl := hL; exact hl)
  · have hp := hp.2 hz
    rw [if_neg hz]
    by_cases hz : v3 = (0 : Int32)
    · have hp := hp.1 hz
      rw [if_pos hz]
      obtain ⟨q15, hp⟩ := hp
      obtain ⟨q16, hp⟩ := hp
      first | exact hL | (have hl := hL; exact hl)
    · have hp := hp.2 hz
      rw [if_neg hz]
      obtain ⟨q2, hp⟩ := hp
      by_cases hz : (xf_241 M v1 v2)
      · have hp := hp.1 hz
        rw [if_pos hz]
        obtain ⟨q4, hp⟩ := hp
        obtain ⟨q5, hp⟩ := hp
        obtain ⟨q6, hp⟩ := hp
        obtain ⟨q7, hp⟩ := hp
        obtain ⟨q8, hp⟩ := hp
        obtain ⟨q9, hp⟩ := hp
        obtain ⟨q10, hp⟩ := hp
        obtain ⟨q11, hp⟩ := hp
        obtain ⟨q12, hp⟩ := hp
        obtain ⟨q13, hp⟩ := hp
        first | exact (xl_245 (hl253 (xl_245 (hl253 (xl_244 (xl_229 hL q4) q5) q6) q11) q12) q13) | (have hl := (xl_245 (hl253 (xl_245 (hl253 (xl_244 (xl_229 hL q4) q5) q6) q11) q12) q13); exact hl)
      · have hp := hp.2 hz
        rw [if_neg hz]
        obtain ⟨q14, hp⟩ := hp
        first | exact (hl253 hL q14) | (have hl := (hl253 hL q14); exact hl)
noncomputable def xr_pay : Nat → (ro_Mm → Int32 → Int32 → Int32 → Int32 → Int64 → ro_Mm)
  | 0 => fun M v1 v2 v3 v4 v5 => M
  | n + 1 => fun M v1 v2 v3 v4 v5 => (xmb_253 (xr_pay n) M v1 v2 v3 v4 v5)
def xpr_pay : Nat → (ro_Mm → Int32 → Int32 → Int32 → Int32 → Int64 → Prop)
  | 0 => fun _ _ _ _ _ _ => False
  | n + 1 => fun M v1 v2 v3 v4 v5 => xpb_253 (xr_pay n) (xpr_pay n) M v1 v2 v3 v4 v5
noncomputable def xm_253 (M : ro_Mm) (v1 : Int32) (v2 : Int32) (v3 : Int32) (v4 : Int32) (v5 : Int64) : ro_Mm := (xr_pay rc_N M v1 v2 v3 v4 v5)
def xp_253 (M : ro_Mm) (v1 : Int32) (v2 : Int32) (v3 : Int32) (v4 : Int32) (v5 : Int64) : Prop := xpr_pay rc_N M v1 v2 v3 v4 v5
/-- a loop of RefusedOnceModel.goStay(I)V -/
noncomputable def xg_257_48 (F257 : ro_Mm → Int32 → ro_Mm) : Nat → ro_Mm → Int32 → Int32 → Int64 → Int64 → Int32 → Int32 → Int32 × Int64 × Int64 × ro_Mm
  | 0, M, v8, v7, v5, v3, v2, v1 => (v8, v5, v3, M)
  | n + 1, M, v8, v7, v5, v3, v2, v1 => (if (M.2.1 163 1) ≤ v8 then (v8, v5, v3, M) else (if v7 = v8 then (xg_257_48 F257 n M (v8 + (1 : Int32)) v7 v5 v3 v2 v1) else (if (xf_241 M v7 v8) then (xg_257_48 F257 n (xm_245 (F257 (xm_245 (xm_229 M v7 v8) v7 v8) (v1 - (1 : Int32))) v8 v7) (v8 + (1 : Int32)) v7 (xf_254 (xm_245 (F257 (xm_245 (xm_229 M v7 v8) v7 v8) (v1 - (1 : Int32))) v8 v7) ((v3 * ((F257 (xm_245 (xm_229 M v7 v8) v7 v8) (v1 - (1 : Int32))).2.2.1 163 34)) + (((((12 : Int32) - (xf_229 M v7 v8)).toInt64) * ((F257 (xm_245 (xm_229 M v7 v8) v7 v8) (v1 - (1 : Int32))).2.2.1 163 33)) * v5)) (v5 * ((F257 (xm_245 (xm_229 M v7 v8) v7 v8) (v1 - (1 : Int32))).2.2.1 163 34)) (1 : Int32)) (xf_254 (xm_245 (F257 (xm_245 (xm_229 M v7 v8) v7 v8) (v1 - (1 : Int32))) v8 v7) ((v3 * ((F257 (xm_245 (xm_229 M v7 v8) v7 v8) (v1 - (1 : Int32))).2.2.1 163 34)) + (((((12 : Int32) - (xf_229 M v7 v8)).toInt64) * ((F257 (xm_245 (xm_229 M v7 v8) v7 v8) (v1 - (1 : Int32))).2.2.1 163 33)) * v5)) (v5 * ((F257 (xm_245 (xm_229 M v7 v8) v7 v8) (v1 - (1 : Int32))).2.2.1 163 34)) (0 : Int32)) v2 v1) else (xg_257_48 F257 n M (v8 + (1 : Int32)) v7 v5 v3 v2 v1))))
def xq_257_48 (F257 : ro_Mm → Int32 → ro_Mm) (P257 : ro_Mm → Int32 → Prop) : Nat → ro_Mm → Int32 → Int32 → Int64 → Int64 → Int32 → Int32 → Prop
  | 0, _, _, _, _, _, _, _ => False
  | n + 1, M, v8, v7, v5, v3, v2, v1 => (((M.2.1 163 1) ≤ v8 → True) ∧ (¬ ((M.2.1 163 1) ≤ v8) → ((v7 = v8 → (xq_257_48 F257 P257 n M (v8 + (1 : Int32)) v7 v5 v3 v2 v1)) ∧ (¬ (v7 = v8) → (xp_241 M v7 v8 ∧ (((xf_241 M v7 v8) → (xp_229 M v7 v8 ∧ (xp_245 (xm_229 M v7 v8) v7 v8 ∧ (P257 (xm_245 (xm_229 M v7 v8) v7 v8) (v1 - (1 : Int32)) ∧ (xp_245 (F257 (xm_245 (xm_229 M v7 v8) v7 v8) (v1 - (1 : Int32))) v8 v7 ∧ (xp_254 (xm_245 (F257 (xm_245 (xm_229 M v7 v8) v7 v8) (v1 - (1 : Int32))) v8 v7) ((v3 * ((F257 (xm_245 (xm_229 M v7 v8) v7 v8) (v1 - (1 : Int32))).2.2.1 163 34)) + (((((12 : Int32) - (xf_229 M v7 v8)).toInt64) * ((F257 (xm_245 (xm_229 M v7 v8) v7 v8) (v1 - (1 : Int32))).2.2.1 163 33)) * v5)) (v5 * ((F257 (xm_245 (xm_229 M v7 v8) v7 v8) (v1 - (1 : Int32))).2.2.1 163 34)) (0 : Int32) ∧ (xp_254 (xm_245 (F257 (xm_245 (xm_229 M v7 v8) v7 v8) (v1 - (1 : Int32))) v8 v7) ((v3 * ((F257 (xm_245 (xm_229 M v7 v8) v7 v8) (v1 - (1 : Int32))).2.2.1 163 34)) + (((((12 : Int32) - (xf_229 M v7 v8)).toInt64) * ((F257 (xm_245 (xm_229 M v7 v8) v7 v8) (v1 - (1 : Int32))).2.2.1 163 33)) * v5)) (v5 * ((F257 (xm_245 (xm_229 M v7 v8) v7 v8) (v1 - (1 : Int32))).2.2.1 163 34)) (1 : Int32) ∧ (xq_257_48 F257 P257 n (xm_245 (F257 (xm_245 (xm_229 M v7 v8) v7 v8) (v1 - (1 : Int32))) v8 v7) (v8 + (1 : Int32)) v7 (xf_254 (xm_245 (F257 (xm_245 (xm_229 M v7 v8) v7 v8) (v1 - (1 : Int32))) v8 v7) ((v3 * ((F257 (xm_245 (xm_229 M v7 v8) v7 v8) (v1 - (1 : Int32))).2.2.1 163 34)) + (((((12 : Int32) - (xf_229 M v7 v8)).toInt64) * ((F257 (xm_245 (xm_229 M v7 v8) v7 v8) (v1 - (1 : Int32))).2.2.1 163 33)) * v5)) (v5 * ((F257 (xm_245 (xm_229 M v7 v8) v7 v8) (v1 - (1 : Int32))).2.2.1 163 34)) (1 : Int32)) (xf_254 (xm_245 (F257 (xm_245 (xm_229 M v7 v8) v7 v8) (v1 - (1 : Int32))) v8 v7) ((v3 * ((F257 (xm_245 (xm_229 M v7 v8) v7 v8) (v1 - (1 : Int32))).2.2.1 163 34)) + (((((12 : Int32) - (xf_229 M v7 v8)).toInt64) * ((F257 (xm_245 (xm_229 M v7 v8) v7 v8) (v1 - (1 : Int32))).2.2.1 163 33)) * v5)) (v5 * ((F257 (xm_245 (xm_229 M v7 v8) v7 v8) (v1 - (1 : Int32))).2.2.1 163 34)) (0 : Int32)) v2 v1)))))))) ∧ (¬ ((xf_241 M v7 v8)) → (xq_257_48 F257 P257 n M (v8 + (1 : Int32)) v7 v5 v3 v2 v1))))))))
theorem xl_257_48 {X : ro_Sx} {k : Nat} {F257 : ro_Mm → Int32 → ro_Mm} {P257 : ro_Mm → Int32 → Prop} (hF257 : ∀ {M : ro_Mm} {v1 : Int32}, ro_lay M → P257 M v1 → ro_cwp X k 257 [.ref 163, .int v1] M (fun v M2 => v = none ∧ M2 = (F257 M v1))) (hl257 : ∀ {M : ro_Mm} {v1 : Int32}, ro_lay M → P257 M v1 → ro_lay (F257 M v1)) : ∀ (n : Nat) {M : ro_Mm} {v8 : Int32} {v7 : Int32} {v5 : Int64} {v3 : Int64} {v2 : Int32} {v1 : Int32} (hL : ro_lay M) (hp : xq_257_48 F257 P257 n M v8 v7 v5 v3 v2 v1), ro_lay (xg_257_48 F257 n M v8 v7 v5 v3 v2 v1).2.2.2 := by
  intro n
  induction n with
  | zero => intro M v8 v7 v5 v3 v2 v1 hL hp; exact False.elim hp
  | succ n ih =>
    intro M v8 v7 v5 v3 v2 v1 hL hp
    rw [xq_257_48] at hp
    rw [xg_257_48]
    by_cases hz : (M.2.1 163 1) ≤ v8
    · have hp := hp.1 hz
      rw [if_pos hz]
      exact hL
    · have hp := hp.2 hz
      rw [if_neg hz]
      by_cases hz : v7 = v8
      · have hp := hp.1 hz
        rw [if_pos hz]
        exact ih hL  hp
      · have hp := hp.2 hz
        rw [if_neg hz]
        obtain ⟨q6, hp⟩ := hp
        by_cases hz : (xf_241 M v7 v8)
        · have hp := hp.1 hz
          rw [if_pos hz]
          obtain ⟨q8, hp⟩ := hp
          obtain ⟨q9, hp⟩ := hp
          obtain ⟨q10, hp⟩ := hp
          obtain ⟨q11, hp⟩ := hp
          obtain ⟨q12, hp⟩ := hp
          obtain ⟨q13, hp⟩ := hp
          exact ih (xl_245 (hl257 (xl_245 (xl_229 hL q8) q9) q10) q11)  hp
        · have hp := hp.2 hz
          rw [if_neg hz]
          exact ih hL  hp
/-- a loop of RefusedOnceModel.goStay(I)V -/
noncomputable def xg_257_36 (F257 : ro_Mm → Int32 → ro_Mm) : Nat → ro_Mm → Int32 → Int64 → Int64 → Int32 → Int32 → Int32 × Int64 × Int64 × ro_Mm
  | 0, M, v7, v5, v3, v2, v1 => (v7, v5, v3, M)
  | n + 1, M, v7, v5, v3, v2, v1 => (if (M.2.1 163 1) ≤ v7 then (v7, v5, v3, M) else (xg_257_36 F257 n (xg_257_48 F257 lp_N M (0 : Int32) v7 v5 v3 v2 v1).2.2.2 (v7 + (1 : Int32)) (xg_257_48 F257 lp_N M (0 : Int32) v7 v5 v3 v2 v1).2.1 (xg_257_48 F257 lp_N M (0 : Int32) v7 v5 v3 v2 v1).2.2.1 v2 v1))
def xq_257_36 (F257 : ro_Mm → Int32 → ro_Mm) (P257 : ro_Mm → Int32 → Prop) : Nat → ro_Mm → Int32 → Int64 → Int64 → Int32 → Int32 → Prop
  | 0, _, _, _, _, _, _ => False
  | n + 1, M, v7, v5, v3, v2, v1 => (((M.2.1 163 1) ≤ v7 → True) ∧ (¬ ((M.2.1 163 1) ≤ v7) → (xq_257_48 F257 P257 lp_N M (0 : Int32) v7 v5 v3 v2 v1 ∧ (xq_257_36 F257 P257 n (xg_257_48 F257 lp_N M (0 : Int32) v7 v5 v3 v2 v1).2.2.2 (v7 + (1 : Int32)) (xg_257_48 F257 lp_N M (0 : Int32) v7 v5 v3 v2 v1).2.1 (xg_257_48 F257 lp_N M (0 : Int32) v7 v5 v3 v2 v1).2.2.1 v2 v1))))
theorem xl_257_36 {X : ro_Sx} {k : Nat} {F257 : ro_Mm → Int32 → ro_Mm} {P257 : ro_Mm → Int32 → Prop} (hF257 : ∀ {M : ro_Mm} {v1 : Int32}, ro_lay M → P257 M v1 → ro_cwp X k 257 [.ref 163, .int v1] M (fun v M2 => v = none ∧ M2 = (F257 M v1))) (hl257 : ∀ {M : ro_Mm} {v1 : Int32}, ro_lay M → P257 M v1 → ro_lay (F257 M v1)) : ∀ (n : Nat) {M : ro_Mm} {v7 : Int32} {v5 : Int64} {v3 : Int64} {v2 : Int32} {v1 : Int32} (hL : ro_lay M) (hp : xq_257_36 F257 P257 n M v7 v5 v3 v2 v1), ro_lay (xg_257_36 F257 n M v7 v5 v3 v2 v1).2.2.2 := by
  intro n
  induction n with
  | zero => intro M v7 v5 v3 v2 v1 hL hp; exact False.elim hp
  | succ n ih =>
    intro M v7 v5 v3 v2 v1 hL hp
    rw [xq_257_36] at hp
    rw [xg_257_36]
    by_cases hz : (M.2.1 163 1) ≤ v7
    · have hp := hp.1 hz
      rw [if_pos hz]
      exact hL
    · have hp := hp.2 hz
      rw [if_neg hz]
      obtain ⟨q14, hp⟩ := hp
      exact ih (xl_257_48 hF257 hl257 lp_N hL q14)  hp
/-- RefusedOnceModel.goStay(I)V -/
noncomputable def xmb_257 (F257 : ro_Mm → Int32 → ro_Mm) (M : ro_Mm) (v1 : Int32) : ro_Mm := (if v1 = (0 : Int32) then (ro_sJ (ro_sJ M 163 33 (1 : Int64)) 163 34 (1 : Int64)) else (if (xf_258 M) = (0 : Int32) then (ro_sJ (ro_sJ M 163 33 (1 : Int64)) 163 34 (1 : Int64)) else (ro_sJ (ro_sJ (xg_257_36 F257 lp_N M (0 : Int32) (1 : Int64) (0 : Int64) (xf_258 M) v1).2.2.2 163 33 (xf_254 (xg_257_36 F257 lp_N M (0 : Int32) (1 : Int64) (0 : Int64) (xf_258 M) v1).2.2.2 (xg_257_36 F257 lp_N M (0 : Int32) (1 : Int64) (0 : Int64) (xf_258 M) v1).2.2.1 (((xg_257_36 F257 lp_N M (0 : Int32) (1 : Int64) (0 : Int64) (xf_258 M) v1).2.1 * (12 : Int64)) * ((xf_258 M).toInt64)) (0 : Int32))) 163 34 (xf_254 (ro_sJ (xg_257_36 F257 lp_N M (0 : Int32) (1 : Int64) (0 : Int64) (xf_258 M) v1).2.2.2 163 33 (xf_254 (xg_257_36 F257 lp_N M (0 : Int32) (1 : Int64) (0 : Int64) (xf_258 M) v1).2.2.2 (xg_257_36 F257 lp_N M (0 : Int32) (1 : Int64) (0 : Int64) (xf_258 M) v1).2.2.1 (((xg_257_36 F257 lp_N M (0 : Int32) (1 : Int64) (0 : Int64) (xf_258 M) v1).2.1 * (12 : Int64)) * ((xf_258 M).toInt64)) (0 : Int32))) (xg_257_36 F257 lp_N M (0 : Int32) (1 : Int64) (0 : Int64) (xf_258 M) v1).2.2.1 (((xg_257_36 F257 lp_N M (0 : Int32) (1 : Int64) (0 : Int64) (xf_258 M) v1).2.1 * (12 : Int64)) * ((xf_258 M).toInt64)) (1 : Int32)))))
def xpb_257 (F257 : ro_Mm → Int32 → ro_Mm) (P257 : ro_Mm → Int32 → Prop) (M : ro_Mm) (v1 : Int32) : Prop := ((v1 = (0 : Int32) → True) ∧ (¬ (v1 = (0 : Int32)) → (xp_258 M ∧ (((xf_258 M) = (0 : Int32) → True) ∧ (¬ ((xf_258 M) = (0 : Int32)) → (xq_257_36 F257 P257 lp_N M (0 : Int32) (1 : Int64) (0 : Int64) (xf_258 M) v1 ∧ (xp_254 (xg_257_36 F257 lp_N M (0 : Int32) (1 : Int64) (0 : Int64) (xf_258 M) v1).2.2.2 (xg_257_36 F257 lp_N M (0 : Int32) (1 : Int64) (0 : Int64) (xf_258 M) v1).2.2.1 (((xg_257_36 F257 lp_N M (0 : Int32) (1 : Int64) (0 : Int64) (xf_258 M) v1).2.1 * (12 : Int64)) * ((xf_258 M).toInt64)) (0 : Int32) ∧ (xp_254 (ro_sJ (xg_257_36 F257 lp_N M (0 : Int32) (1 : Int64) (0 : Int64) (xf_258 M) v1).2.2.2 163 33 (xf_254 (xg_257_36 F257 lp_N M (0 : Int32) (1 : Int64) (0 : Int64) (xf_258 M) v1).2.2.2 (xg_257_36 F257 lp_N M (0 : Int32) (1 : Int64) (0 : Int64) (xf_258 M) v1).2.2.1 (((xg_257_36 F257 lp_N M (0 : Int32) (1 : Int64) (0 : Int64) (xf_258 M) v1).2.1 * (12 : Int64)) * ((xf_258 M).toInt64)) (0 : Int32))) (xg_257_36 F257 lp_N M (0 : Int32) (1 : Int64) (0 : Int64) (xf_258 M) v1).2.2.1 (((xg_257_36 F257 lp_N M (0 : Int32) (1 : Int64) (0 : Int64) (xf_258 M) v1).2.1 * (12 : Int64)) * ((xf_258 M).toInt64)) (1 : Int32) ∧ True))))))))
theorem xlb_257 {X : ro_Sx} {k : Nat} {F257 : ro_Mm → Int32 → ro_Mm} {P257 : ro_Mm → Int32 → Prop} (hF257 : ∀ {M : ro_Mm} {v1 : Int32}, ro_lay M → P257 M v1 → ro_cwp X k 257 [.ref 163, .int v1] M (fun v M2 => v = none ∧ M2 = (F257 M v1))) (hl257 : ∀ {M : ro_Mm} {v1 : Int32}, ro_lay M → P257 M v1 → ro_lay (F257 M v1)) {M : ro_Mm} {v1 : Int32} (hL : ro_lay M) (hp : xpb_257 F257 P257 M v1) : ro_lay (xmb_257 F257 M v1) := by
  unfold xpb_257 at hp
  unfold xmb_257
  by_cases hz : v1 = (0 : Int32)
  · have hp := hp.1 hz
    rw [if_pos hz]
    first | exact hL | (have hl := hL; exact hl)
  · have hp := hp.2 hz
    rw [if_neg hz]
    obtain ⟨q1, hp⟩ := hp
    by_cases hz : (xf_258 M) = (0 : Int32)
    · have hp := hp.1 hz
      rw [if_pos hz]
      first | exact hL | (have hl := hL; exact hl)
    · have hp := hp.2 hz
      rw [if_neg hz]
      obtain ⟨q15, hp⟩ := hp
      obtain ⟨q16, hp⟩ := hp
      obtain ⟨q17, hp⟩ := hp
      first | exact (xl_257_36 hF257 hl257 lp_N hL q15) | (have hl := (xl_257_36 hF257 hl257 lp_N hL q15); exact hl)
noncomputable def xr_sty : Nat → (ro_Mm → Int32 → ro_Mm)
  | 0 => fun M v1 => M
  | n + 1 => fun M v1 => (xmb_257 (xr_sty n) M v1)
def xpr_sty : Nat → (ro_Mm → Int32 → Prop)
  | 0 => fun _ _ => False
  | n + 1 => fun M v1 => xpb_257 (xr_sty n) (xpr_sty n) M v1
noncomputable def xm_257 (M : ro_Mm) (v1 : Int32) : ro_Mm := (xr_sty rc_N M v1)
def xp_257 (M : ro_Mm) (v1 : Int32) : Prop := xpr_sty rc_N M v1
/-- RefusedOnceModel.behind(III)I -/
noncomputable def xf_268 (M : ro_Mm) (v1 : Int32) (v2 : Int32) (v3 : Int32) : Int32 := (if (xf_198 M v1) then (if (xf_198 M v2) then (if (xf_195 M v3 (0 : Int32) (3 : Int32)) then (if (0 : Int32) ≤ (xf_235 M v1) then (if (0 : Int32) ≤ (xf_235 M v2) then (if v3 = (0 : Int32) then ((xm_269 (xm_228 (ro_sI (ro_sI (ro_sI (ro_sI (ro_sI (ro_sI (ro_sI M 163 35 v1) 163 36 v2) 163 37 (xf_237 (ro_sI (ro_sI M 163 35 v1) 163 36 v2) v1 (20 : Int32))) 163 38 (0 : Int32)) 163 39 (-2 : Int32)) 163 40 (-2 : Int32)) 163 41 (-1 : Int32))) (0 : Int32) (0 : Int32)).2.1 163 38) else (if v3 = (1 : Int32) then ((xm_269 (xm_228 (ro_sI (ro_sI (ro_sI (ro_sI (ro_sI (ro_sI (ro_sI M 163 35 v1) 163 36 v2) 163 37 (xf_237 (ro_sI (ro_sI M 163 35 v1) 163 36 v2) v1 (20 : Int32))) 163 38 (0 : Int32)) 163 39 (-2 : Int32)) 163 40 (-2 : Int32)) 163 41 (-1 : Int32))) (0 : Int32) (0 : Int32)).2.1 163 39) else (if v3 = (2 : Int32) then ((xm_269 (xm_228 (ro_sI (ro_sI (ro_sI (ro_sI (ro_sI (ro_sI (ro_sI M 163 35 v1) 163 36 v2) 163 37 (xf_237 (ro_sI (ro_sI M 163 35 v1) 163 36 v2) v1 (20 : Int32))) 163 38 (0 : Int32)) 163 39 (-2 : Int32)) 163 40 (-2 : Int32)) 163 41 (-1 : Int32))) (0 : Int32) (0 : Int32)).2.1 163 40) else (if ((xm_269 (xm_228 (ro_sI (ro_sI (ro_sI (ro_sI (ro_sI (ro_sI (ro_sI M 163 35 v1) 163 36 v2) 163 37 (xf_237 (ro_sI (ro_sI M 163 35 v1) 163 36 v2) v1 (20 : Int32))) 163 38 (0 : Int32)) 163 39 (-2 : Int32)) 163 40 (-2 : Int32)) 163 41 (-1 : Int32))) (0 : Int32) (0 : Int32)).2.1 163 38) = (0 : Int32) then (0 : Int32) else ((xm_269 (xm_228 (ro_sI (ro_sI (ro_sI (ro_sI (ro_sI (ro_sI (ro_sI M 163 35 v1) 163 36 v2) 163 37 (xf_237 (ro_sI (ro_sI M 163 35 v1) 163 36 v2) v1 (20 : Int32))) 163 38 (0 : Int32)) 163 39 (-2 : Int32)) 163 40 (-2 : Int32)) 163 41 (-1 : Int32))) (0 : Int32) (0 : Int32)).2.1 163 41))))) else (xf_235 M v2)) else (xf_235 M v1)) else (-1 : Int32)) else (-1 : Int32)) else (-1 : Int32))
noncomputable def xm_268 (M : ro_Mm) (v1 : Int32) (v2 : Int32) (v3 : Int32) : ro_Mm := (if (xf_198 M v1) then (if (xf_198 M v2) then (if (xf_195 M v3 (0 : Int32) (3 : Int32)) then (if (0 : Int32) ≤ (xf_235 M v1) then (if (0 : Int32) ≤ (xf_235 M v2) then (xm_269 (xm_228 (ro_sI (ro_sI (ro_sI (ro_sI (ro_sI (ro_sI (ro_sI M 163 35 v1) 163 36 v2) 163 37 (xf_237 (ro_sI (ro_sI M 163 35 v1) 163 36 v2) v1 (20 : Int32))) 163 38 (0 : Int32)) 163 39 (-2 : Int32)) 163 40 (-2 : Int32)) 163 41 (-1 : Int32))) (0 : Int32) (0 : Int32)) else M) else M) else M) else M) else M)
def xp_268 (M : ro_Mm) (v1 : Int32) (v2 : Int32) (v3 : Int32) : Prop := (((xf_198 M v1) → (((xf_198 M v2) → (((xf_195 M v3 (0 : Int32) (3 : Int32)) → (xp_235 M v1 ∧ (((0 : Int32) ≤ (xf_235 M v1) → (xp_235 M v2 ∧ (((0 : Int32) ≤ (xf_235 M v2) → (xp_237 (ro_sI (ro_sI M 163 35 v1) 163 36 v2) v1 (20 : Int32) ∧ (xp_228 (ro_sI (ro_sI (ro_sI (ro_sI (ro_sI (ro_sI (ro_sI M 163 35 v1) 163 36 v2) 163 37 (xf_237 (ro_sI (ro_sI M 163 35 v1) 163 36 v2) v1 (20 : Int32))) 163 38 (0 : Int32)) 163 39 (-2 : Int32)) 163 40 (-2 : Int32)) 163 41 (-1 : Int32)) ∧ (xp_269 (xm_228 (ro_sI (ro_sI (ro_sI (ro_sI (ro_sI (ro_sI (ro_sI M 163 35 v1) 163 36 v2) 163 37 (xf_237 (ro_sI (ro_sI M 163 35 v1) 163 36 v2) v1 (20 : Int32))) 163 38 (0 : Int32)) 163 39 (-2 : Int32)) 163 40 (-2 : Int32)) 163 41 (-1 : Int32))) (0 : Int32) (0 : Int32) ∧ True)))) ∧ (¬ ((0 : Int32) ≤ (xf_235 M v2)) → (xp_235 M v2 ∧ True))))) ∧ (¬ ((0 : Int32) ≤ (xf_235 M v1)) → (xp_235 M v1 ∧ True))))) ∧ (¬ ((xf_195 M v3 (0 : Int32) (3 : Int32))) → True))) ∧ (¬ ((xf_198 M v2)) → True))) ∧ (¬ ((xf_198 M v1)) → True))
/-- a loop of RefusedOnceModel.findPay(II)J -/
noncomputable def xg_252_6 : Nat → ro_Mm → Int32 → Int32 → Int32 → Int32 × ro_Mm
  | 0, M, v3, v1, v2 => (v3, M)
  | n + 1, M, v3, v1, v2 => (if (8 : Int32) < v3 then (v3, M) else (xg_252_6 n (ro_sJ M 183 (v3.toNatClampNeg) (0 : Int64)) (v3 + (1 : Int32)) v1 v2))
def xq_252_6 : Nat → ro_Mm → Int32 → Int32 → Int32 → Prop
  | 0, _, _, _, _ => False
  | n + 1, M, v3, v1, v2 => (((8 : Int32) < v3 → True) ∧ (¬ ((8 : Int32) < v3) → (vp_in v3 9 ∧ (xq_252_6 n (ro_sJ M 183 (v3.toNatClampNeg) (0 : Int64)) (v3 + (1 : Int32)) v1 v2))))
theorem xl_252_6 : ∀ (n : Nat) {M : ro_Mm} {v3 : Int32} {v1 : Int32} {v2 : Int32} (hL : ro_lay M) (hp : xq_252_6 n M v3 v1 v2), ro_lay (xg_252_6 n M v3 v1 v2).2 := by
  intro n
  induction n with
  | zero => intro M v3 v1 v2 hL hp; exact False.elim hp
  | succ n ih =>
    intro M v3 v1 v2 hL hp
    rw [xq_252_6] at hp
    rw [xg_252_6]
    by_cases hz : (8 : Int32) < v3
    · have hp := hp.1 hz
      rw [if_pos hz]
      exact hL
    · have hp := hp.2 hz
      rw [if_neg hz]
      obtain ⟨q2, hp⟩ := hp
      exact ih hL  hp
theorem xwI_252_6 : ∀ {n : Nat} {M : ro_Mm} {v3 : Int32} {v1 : Int32} {v2 : Int32} {c j : Nat}, (xg_252_6 n M v3 v1 v2).2.2.1 c j = M.2.1 c j := by
  intro n
  induction n with
  | zero => intro M v3 v1 v2 c j; rfl
  | succ n ih =>
    intro M v3 v1 v2 c j
    rw [xg_252_6]
    by_cases hz : (8 : Int32) < v3
    · rw [if_pos hz]
      first | done | exact rfl
    · rw [if_neg hz]
      first | done | exact (((ih)).trans (congrFun (congrFun ro_sJ_I _) _))
theorem xwJ_252_6 : ∀ {n : Nat} {M : ro_Mm} {v3 : Int32} {v1 : Int32} {v2 : Int32} {c j : Nat} (n0 : c ≠ 183), (xg_252_6 n M v3 v1 v2).2.2.2.1 c j = M.2.2.1 c j := by
  intro n
  induction n with
  | zero => intro M v3 v1 v2 c j n0; rfl
  | succ n ih =>
    intro M v3 v1 v2 c j n0
    rw [xg_252_6]
    by_cases hz : (8 : Int32) < v3
    · rw [if_pos hz]
      first | done | exact rfl
    · rw [if_neg hz]
      first | done | exact (((ih n0)).trans (ro_sJ_ne n0))
/-- a loop of RefusedOnceModel.findPay(II)J -/
noncomputable def xg_252_45 : Nat → ro_Mm → Int32 → Int64 → Int32 → Int32 → Int32 × Int64
  | 0, M, v5, v3, v1, v2 => (v5, v3)
  | n + 1, M, v5, v3, v1, v2 => (if v2 ≤ v5 then (v5, v3) else (xg_252_45 n M (v5 + (1 : Int32)) (v3 * (12 : Int64)) v1 v2))
def xq_252_45 : Nat → ro_Mm → Int32 → Int64 → Int32 → Int32 → Prop
  | 0, _, _, _, _, _ => False
  | n + 1, M, v5, v3, v1, v2 => ((v2 ≤ v5 → True) ∧ (¬ (v2 ≤ v5) → (xq_252_45 n M (v5 + (1 : Int32)) (v3 * (12 : Int64)) v1 v2)))
/-- RefusedOnceModel.findPay(II)J -/
noncomputable def xf_252 (M : ro_Mm) (v1 : Int32) (v2 : Int32) : Int64 := (xg_252_45 lp_N (xm_253 (xg_252_6 lp_N (xm_228 M) (0 : Int32) v1 v2).2 (v1 / (10 : Int32)) (ro_irem v1 (10 : Int32)) v2 (0 : Int32) (1 : Int64)) (0 : Int32) (1 : Int64) v1 v2).2
noncomputable def xm_252 (M : ro_Mm) (v1 : Int32) (v2 : Int32) : ro_Mm := (xm_253 (xg_252_6 lp_N (xm_228 M) (0 : Int32) v1 v2).2 (v1 / (10 : Int32)) (ro_irem v1 (10 : Int32)) v2 (0 : Int32) (1 : Int64))
def xp_252 (M : ro_Mm) (v1 : Int32) (v2 : Int32) : Prop := (xp_228 M ∧ (xq_252_6 lp_N (xm_228 M) (0 : Int32) v1 v2 ∧ (xp_253 (xg_252_6 lp_N (xm_228 M) (0 : Int32) v1 v2).2 (v1 / (10 : Int32)) (ro_irem v1 (10 : Int32)) v2 (0 : Int32) (1 : Int64) ∧ (xq_252_45 lp_N (xm_253 (xg_252_6 lp_N (xm_228 M) (0 : Int32) v1 v2).2 (v1 / (10 : Int32)) (ro_irem v1 (10 : Int32)) v2 (0 : Int32) (1 : Int64)) (0 : Int32) (1 : Int64) v1 v2 ∧ True))))
/-- a loop of RefusedOnceModel.mean(III)J -/
noncomputable def xg_255_45 : Nat → ro_Mm → Int32 → Int64 → Int64 → Int32 → Int32 → Int32 → Int32 × Int64
  | 0, M, v8, v6, v4, v1, v2, v3 => (v8, v6)
  | n + 1, M, v8, v6, v4, v1, v2, v3 => (if (8 : Int32) < v8 then (v8, v6) else (xg_255_45 n M (v8 + (1 : Int32)) (v6 + ((v8.toInt64) * (M.2.2.1 183 (v8.toNatClampNeg)))) v4 v1 v2 v3))
def xq_255_45 : Nat → ro_Mm → Int32 → Int64 → Int64 → Int32 → Int32 → Int32 → Prop
  | 0, _, _, _, _, _, _, _ => False
  | n + 1, M, v8, v6, v4, v1, v2, v3 => (((8 : Int32) < v8 → True) ∧ (¬ ((8 : Int32) < v8) → (vp_in v8 9 ∧ (xq_255_45 n M (v8 + (1 : Int32)) (v6 + ((v8.toInt64) * (M.2.2.1 183 (v8.toNatClampNeg)))) v4 v1 v2 v3))))
/-- RefusedOnceModel.mean(III)J -/
noncomputable def xf_255 (M : ro_Mm) (v1 : Int32) (v2 : Int32) (v3 : Int32) : Int64 := (if (xf_227 M v1) then (if (xf_195 M v2 (0 : Int32) (8 : Int32)) then (if (xf_195 M v3 (0 : Int32) (1 : Int32)) then (xf_254 (xm_252 M v1 v2) (xg_255_45 lp_N (xm_252 M v1 v2) (1 : Int32) (0 : Int64) (xf_252 M v1 v2) v1 v2 v3).2 (xf_252 M v1 v2) v3) else (-9223372036854775808 : Int64)) else (-9223372036854775808 : Int64)) else (-9223372036854775808 : Int64))
noncomputable def xm_255 (M : ro_Mm) (v1 : Int32) (v2 : Int32) (v3 : Int32) : ro_Mm := (if (xf_227 M v1) then (if (xf_195 M v2 (0 : Int32) (8 : Int32)) then (if (xf_195 M v3 (0 : Int32) (1 : Int32)) then (xm_252 M v1 v2) else M) else M) else M)
def xp_255 (M : ro_Mm) (v1 : Int32) (v2 : Int32) (v3 : Int32) : Prop := (((xf_227 M v1) → (((xf_195 M v2 (0 : Int32) (8 : Int32)) → (((xf_195 M v3 (0 : Int32) (1 : Int32)) → (xp_252 M v1 v2 ∧ (xq_255_45 lp_N (xm_252 M v1 v2) (1 : Int32) (0 : Int64) (xf_252 M v1 v2) v1 v2 v3 ∧ (xp_254 (xm_252 M v1 v2) (xg_255_45 lp_N (xm_252 M v1 v2) (1 : Int32) (0 : Int64) (xf_252 M v1 v2) v1 v2 v3).2 (xf_252 M v1 v2) v3 ∧ True)))) ∧ (¬ ((xf_195 M v3 (0 : Int32) (1 : Int32))) → True))) ∧ (¬ ((xf_195 M v2 (0 : Int32) (8 : Int32))) → True))) ∧ (¬ ((xf_227 M v1)) → True))
/-- RefusedOnceModel.stays(II)J -/
noncomputable def xf_256 (M : ro_Mm) (v1 : Int32) (v2 : Int32) : Int64 := (if (xf_195 M v1 (0 : Int32) (2 : Int32)) then (if (xf_195 M v2 (0 : Int32) (1 : Int32)) then (if v2 = (0 : Int32) then ((xm_257 (xm_228 M) v1).2.2.1 163 33) else ((xm_257 (xm_228 M) v1).2.2.1 163 34)) else (-9223372036854775808 : Int64)) else (-9223372036854775808 : Int64))
noncomputable def xm_256 (M : ro_Mm) (v1 : Int32) (v2 : Int32) : ro_Mm := (if (xf_195 M v1 (0 : Int32) (2 : Int32)) then (if (xf_195 M v2 (0 : Int32) (1 : Int32)) then (xm_257 (xm_228 M) v1) else M) else M)
def xp_256 (M : ro_Mm) (v1 : Int32) (v2 : Int32) : Prop := (((xf_195 M v1 (0 : Int32) (2 : Int32)) → (((xf_195 M v2 (0 : Int32) (1 : Int32)) → (xp_228 M ∧ (xp_257 (xm_228 M) v1 ∧ True))) ∧ (¬ ((xf_195 M v2 (0 : Int32) (1 : Int32))) → True))) ∧ (¬ ((xf_195 M v1 (0 : Int32) (2 : Int32))) → True))
/-- RefusedOnceModel.pay(IIII)J -/
noncomputable def xf_251 (M : ro_Mm) (v1 : Int32) (v2 : Int32) (v3 : Int32) (v4 : Int32) : Int64 := (if (xf_227 M v1) then (if (xf_195 M v2 (0 : Int32) (8 : Int32)) then (if (xf_195 M v3 (0 : Int32) (8 : Int32)) then (if (xf_195 M v4 (0 : Int32) (1 : Int32)) then (xf_254 (xm_252 M v1 v2) ((xm_252 M v1 v2).2.2.1 183 (v3.toNatClampNeg)) (xf_252 M v1 v2) v4) else (-9223372036854775808 : Int64)) else (-9223372036854775808 : Int64)) else (-9223372036854775808 : Int64)) else (-9223372036854775808 : Int64))
noncomputable def xm_251 (M : ro_Mm) (v1 : Int32) (v2 : Int32) (v3 : Int32) (v4 : Int32) : ro_Mm := (if (xf_227 M v1) then (if (xf_195 M v2 (0 : Int32) (8 : Int32)) then (if (xf_195 M v3 (0 : Int32) (8 : Int32)) then (if (xf_195 M v4 (0 : Int32) (1 : Int32)) then (xm_252 M v1 v2) else M) else M) else M) else M)
def xp_251 (M : ro_Mm) (v1 : Int32) (v2 : Int32) (v3 : Int32) (v4 : Int32) : Prop := (((xf_227 M v1) → (((xf_195 M v2 (0 : Int32) (8 : Int32)) → (((xf_195 M v3 (0 : Int32) (8 : Int32)) → (((xf_195 M v4 (0 : Int32) (1 : Int32)) → (xp_252 M v1 v2 ∧ (vp_in v3 9 ∧ (xp_254 (xm_252 M v1 v2) ((xm_252 M v1 v2).2.2.1 183 (v3.toNatClampNeg)) (xf_252 M v1 v2) v4 ∧ True)))) ∧ (¬ ((xf_195 M v4 (0 : Int32) (1 : Int32))) → True))) ∧ (¬ ((xf_195 M v3 (0 : Int32) (8 : Int32))) → True))) ∧ (¬ ((xf_195 M v2 (0 : Int32) (8 : Int32))) → True))) ∧ (¬ ((xf_227 M v1)) → True))
