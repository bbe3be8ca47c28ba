/-! methods without loops: what they answer, what they leave, the rows that show it (by program, wip/whole/walk.py) -/
/-- RefusedOnceModel.hour()I -/
def xf_277 (M : ro_Mm) : Int32 := (if (M.2.1 168 1) = (11 : Int32) then (0 : Int32) else ((M.2.1 168 1) + (1 : Int32)))
def xm_277 (M : ro_Mm) : ro_Mm := (if (M.2.1 168 1) = (11 : Int32) then (ro_sI (ro_sI M 168 1 (0 : Int32)) 184 3 ((M.2.1 184 3) + (1 : Int32))) else (ro_sI (ro_sI M 168 1 ((M.2.1 168 1) + (1 : Int32))) 184 3 ((M.2.1 184 3) + (1 : Int32))))
theorem xl_277 {M : ro_Mm} (hL : ro_lay M) : ro_lay (xm_277 M) := by
  unfold xm_277
  by_cases hz : (M.2.1 168 1) = (11 : Int32)
  · skip
    rw [if_pos hz]
    exact hL
  · skip
    rw [if_neg hz]
    exact hL
theorem xwI_277 {M : ro_Mm} {c j : Nat} (n0 : c ≠ 168) (n1 : c ≠ 184) : (xm_277 M).2.1 c j = M.2.1 c j := by
  unfold xm_277
  by_cases hz : (M.2.1 168 1) = (11 : Int32)
  · rw [if_pos hz]
    first | done | exact (((ro_sI_ne n1)).trans (ro_sI_ne n0))
  · rw [if_neg hz]
    first | done | exact (((ro_sI_ne n1)).trans (ro_sI_ne n0))
theorem xwJ_277 {M : ro_Mm} {c j : Nat} : (xm_277 M).2.2.1 c j = M.2.2.1 c j := by
  unfold xm_277
  by_cases hz : (M.2.1 168 1) = (11 : Int32)
  · rw [if_pos hz]
    first | done | exact rfl
  · rw [if_neg hz]
    first | done | exact rfl
/-- RefusedOnceModel.led(I)I -/
def xf_278 (M : ro_Mm) (v1 : Int32) : Int32 := (if (xf_195 M v1 (0 : Int32) (3 : Int32)) then (M.2.1 184 (v1.toNatClampNeg)) else (-1 : Int32))
def xp_278 (M : ro_Mm) (v1 : Int32) : Prop := (((xf_195 M v1 (0 : Int32) (3 : Int32)) → (vp_in v1 4 ∧ True)) ∧ (¬ ((xf_195 M v1 (0 : Int32) (3 : Int32))) → True))
/-- RefusedOnceModel.trace(I)I -/
def xf_281 (M : ro_Mm) (v1 : Int32) : Int32 := (if v1 < (0 : Int32) then (-1 : Int32) else (if (M.2.1 163 51) ≤ v1 then (-1 : Int32) else (if (24 : Int32) ≤ v1 then (-1 : Int32) else (M.2.1 189 (v1.toNatClampNeg)))))
/-- RefusedOnceModel.body(I)I -/
def xf_282 (M : ro_Mm) (v1 : Int32) : Int32 := (if (xf_195 M v1 (0 : Int32) (7 : Int32)) then (if (M.2.1 163 49) = (50 : Int32) then (-3 : Int32) else (((M.2.1 163 49) + (1 : Int32)) - (1 : Int32))) else (-1 : Int32))
def xm_282 (M : ro_Mm) (v1 : Int32) : ro_Mm := (if (xf_195 M v1 (0 : Int32) (7 : Int32)) then (if (M.2.1 163 49) = (50 : Int32) then M else (ro_sI (ro_sI M 188 ((M.2.1 163 49).toNatClampNeg) v1) 163 49 ((M.2.1 163 49) + (1 : Int32)))) else M)
def xp_282 (M : ro_Mm) (v1 : Int32) : Prop := (((xf_195 M v1 (0 : Int32) (7 : Int32)) → (((M.2.1 163 49) = (50 : Int32) → True) ∧ (¬ ((M.2.1 163 49) = (50 : Int32)) → (vp_in (M.2.1 163 49) 50 ∧ True)))) ∧ (¬ ((xf_195 M v1 (0 : Int32) (7 : Int32))) → True))
theorem xl_282 {M : ro_Mm} {v1 : Int32} (hL : ro_lay M) (hp : xp_282 M v1) : ro_lay (xm_282 M v1) := by
  unfold xp_282 at hp
  unfold xm_282
  by_cases hz : (xf_195 M v1 (0 : Int32) (7 : Int32))
  · have hp := hp.1 hz
    rw [if_pos hz]
    by_cases hz : (M.2.1 163 49) = (50 : Int32)
    · have hp := hp.1 hz
      rw [if_pos hz]
      exact hL
    · have hp := hp.2 hz
      rw [if_neg hz]
      obtain ⟨q2, hp⟩ := hp
      exact hL
  · have hp := hp.2 hz
    rw [if_neg hz]
    exact hL
theorem xwI_282 {M : ro_Mm} {v1 : Int32} {c j : Nat} (n0 : c ≠ 188) (n1 : c ≠ 163) : (xm_282 M v1).2.1 c j = M.2.1 c j := by
  unfold xm_282
  by_cases hz : (xf_195 M v1 (0 : Int32) (7 : Int32))
  · rw [if_pos hz]
    by_cases hz : (M.2.1 163 49) = (50 : Int32)
    · rw [if_pos hz]
      first | done | exact rfl
    · rw [if_neg hz]
      first | done | exact (((ro_sI_ne n1)).trans (ro_sI_ne n0))
  · rw [if_neg hz]
    first | done | exact rfl
theorem xwJ_282 {M : ro_Mm} {v1 : Int32} {c j : Nat} : (xm_282 M v1).2.2.1 c j = M.2.2.1 c j := by
  unfold xm_282
  by_cases hz : (xf_195 M v1 (0 : Int32) (7 : Int32))
  · rw [if_pos hz]
    by_cases hz : (M.2.1 163 49) = (50 : Int32)
    · rw [if_pos hz]
      first | done | exact rfl
    · rw [if_neg hz]
      first | done | exact rfl
  · rw [if_neg hz]
    first | done | exact rfl
/-- RefusedOnceModel.isBody(I)Z -/
def xf_284 (M : ro_Mm) (v1 : Int32) : Bool := (xf_195 M v1 (0 : Int32) ((M.2.1 163 49) - (1 : Int32)))
/-- RefusedOnceModel.isUnder(II)Z -/
def xf_286 (M : ro_Mm) (v0 : Int32) (v1 : Int32) : Bool := (if v1 = (0 : Int32) then true else (if v0 = v1 then true else (if v1 = (1 : Int32) then (if v0 = (4 : Int32) then true else false) else (if v1 = (2 : Int32) then (if v0 = (3 : Int32) then true else (if v0 = (5 : Int32) then true else false)) else (if v1 = (3 : Int32) then (if v0 = (5 : Int32) then true else false) else (if v1 = (6 : Int32) then (if v0 = (7 : Int32) then true else false) else false))))))
/-- RefusedOnceModel.ran(I)V -/
def xm_287 (M : ro_Mm) (v1 : Int32) : ro_Mm := (if (24 : Int32) ≤ (M.2.1 163 51) then (ro_sI M 163 51 ((M.2.1 163 51) + (1 : Int32))) else (ro_sI (ro_sI M 189 ((M.2.1 163 51).toNatClampNeg) v1) 163 51 ((M.2.1 163 51) + (1 : Int32))))
def xp_287 (M : ro_Mm) (v1 : Int32) : Prop := (((24 : Int32) ≤ (M.2.1 163 51) → True) ∧ (¬ ((24 : Int32) ≤ (M.2.1 163 51)) → (vp_in (M.2.1 163 51) 24 ∧ True)))
theorem xl_287 {M : ro_Mm} {v1 : Int32} (hL : ro_lay M) (hp : xp_287 M v1) : ro_lay (xm_287 M v1) := by
  unfold xp_287 at hp
  unfold xm_287
  by_cases hz : (24 : Int32) ≤ (M.2.1 163 51)
  · have hp := hp.1 hz
    rw [if_pos hz]
    exact hL
  · have hp := hp.2 hz
    rw [if_neg hz]
    obtain ⟨q1, hp⟩ := hp
    exact hL
theorem xwI_287 {M : ro_Mm} {v1 : Int32} {c j : Nat} (n0 : c ≠ 163) (n1 : c ≠ 189) : (xm_287 M v1).2.1 c j = M.2.1 c j := by
  unfold xm_287
  by_cases hz : (24 : Int32) ≤ (M.2.1 163 51)
  · rw [if_pos hz]
    first | done | exact (ro_sI_ne n0)
  · rw [if_neg hz]
    first | done | exact (((ro_sI_ne n0)).trans (ro_sI_ne n1))
theorem xwJ_287 {M : ro_Mm} {v1 : Int32} {c j : Nat} : (xm_287 M v1).2.2.1 c j = M.2.2.1 c j := by
  unfold xm_287
  by_cases hz : (24 : Int32) ≤ (M.2.1 163 51)
  · rw [if_pos hz]
    first | done | exact rfl
  · rw [if_neg hz]
    first | done | exact rfl
/-- RefusedOnceModel.plainOffers(II)I -/
def xf_288 (M : ro_Mm) (v1 : Int32) (v2 : Int32) : Int32 := (v2 + v1)
def xm_288 (M : ro_Mm) (v1 : Int32) (v2 : Int32) : ro_Mm := (xm_287 M (1 : Int32))
def xp_288 (M : ro_Mm) (v1 : Int32) (v2 : Int32) : Prop := (xp_287 M (1 : Int32) ∧ True)
theorem xl_288 {M : ro_Mm} {v1 : Int32} {v2 : Int32} (hL : ro_lay M) (hp : xp_288 M v1 v2) : ro_lay (xm_288 M v1 v2) := by
  unfold xp_288 at hp
  unfold xm_288
  obtain ⟨q0, hp⟩ := hp
  exact (xl_287 hL q0)
theorem xwI_288 {M : ro_Mm} {v1 : Int32} {v2 : Int32} {c j : Nat} (n0 : c ≠ 163) (n1 : c ≠ 189) : (xm_288 M v1 v2).2.1 c j = M.2.1 c j := by
  unfold xm_288
  first | done | exact (xwI_287 n0 n1)
theorem xwJ_288 {M : ro_Mm} {v1 : Int32} {v2 : Int32} {c j : Nat} : (xm_288 M v1 v2).2.2.1 c j = M.2.2.1 c j := by
  unfold xm_288
  first | done | exact (xwJ_287)
/-- RefusedOnceModel.halfOffers(II)I -/
def xf_289 (M : ro_Mm) (v1 : Int32) (v2 : Int32) : Int32 := ((xf_288 (xm_287 M (70 : Int32)) v1 v2) * (2 : Int32))
def xm_289 (M : ro_Mm) (v1 : Int32) (v2 : Int32) : ro_Mm := (xm_288 (xm_287 M (70 : Int32)) v1 v2)
def xp_289 (M : ro_Mm) (v1 : Int32) (v2 : Int32) : Prop := (xp_287 M (70 : Int32) ∧ (xp_288 (xm_287 M (70 : Int32)) v1 v2 ∧ True))
theorem xl_289 {M : ro_Mm} {v1 : Int32} {v2 : Int32} (hL : ro_lay M) (hp : xp_289 M v1 v2) : ro_lay (xm_289 M v1 v2) := by
  unfold xp_289 at hp
  unfold xm_289
  obtain ⟨q0, hp⟩ := hp
  obtain ⟨q1, hp⟩ := hp
  exact (xl_288 (xl_287 hL q0) q1)
theorem xwI_289 {M : ro_Mm} {v1 : Int32} {v2 : Int32} {c j : Nat} (n0 : c ≠ 163) (n1 : c ≠ 189) : (xm_289 M v1 v2).2.1 c j = M.2.1 c j := by
  unfold xm_289
  first | done | exact (((xwI_288 n0 n1)).trans (xwI_287 n0 n1))
theorem xwJ_289 {M : ro_Mm} {v1 : Int32} {v2 : Int32} {c j : Nat} : (xm_289 M v1 v2).2.2.1 c j = M.2.2.1 c j := by
  unfold xm_289
  first | done | exact (((xwJ_288)).trans (xwJ_287))
/-- RefusedOnceModel.plainTakes(II)I -/
def xf_295 (M : ro_Mm) (v1 : Int32) (v2 : Int32) : Int32 := (v2 ^^^ v1)
def xm_295 (M : ro_Mm) (v1 : Int32) (v2 : Int32) : ro_Mm := (xm_287 M (11 : Int32))
def xp_295 (M : ro_Mm) (v1 : Int32) (v2 : Int32) : Prop := (xp_287 M (11 : Int32) ∧ True)
theorem xl_295 {M : ro_Mm} {v1 : Int32} {v2 : Int32} (hL : ro_lay M) (hp : xp_295 M v1 v2) : ro_lay (xm_295 M v1 v2) := by
  unfold xp_295 at hp
  unfold xm_295
  obtain ⟨q0, hp⟩ := hp
  exact (xl_287 hL q0)
theorem xwI_295 {M : ro_Mm} {v1 : Int32} {v2 : Int32} {c j : Nat} (n0 : c ≠ 163) (n1 : c ≠ 189) : (xm_295 M v1 v2).2.1 c j = M.2.1 c j := by
  unfold xm_295
  first | done | exact (xwI_287 n0 n1)
theorem xwJ_295 {M : ro_Mm} {v1 : Int32} {v2 : Int32} {c j : Nat} : (xm_295 M v1 v2).2.2.1 c j = M.2.2.1 c j := by
  unfold xm_295
  first | done | exact (xwJ_287)
/-- RefusedOnceModel.keep(II)I -/
def xf_300 (M : ro_Mm) (v1 : Int32) (v2 : Int32) : Int32 := (if (xf_198 M v1) then (if v2 = (-1 : Int32) then (1 : Int32) else (if (xf_284 M v2) then (1 : Int32) else (-1 : Int32))) else (-1 : Int32))
def xm_300 (M : ro_Mm) (v1 : Int32) (v2 : Int32) : ro_Mm := (if (xf_198 M v1) then (if v2 = (-1 : Int32) then (ro_sI M 190 (v1.toNatClampNeg) v2) else (if (xf_284 M v2) then (ro_sI M 190 (v1.toNatClampNeg) v2) else M)) else M)
def xp_300 (M : ro_Mm) (v1 : Int32) (v2 : Int32) : Prop := (((xf_198 M v1) → ((v2 = (-1 : Int32) → (vp_in v1 6 ∧ True)) ∧ (¬ (v2 = (-1 : Int32)) → (((xf_284 M v2) → (vp_in v1 6 ∧ True)) ∧ (¬ ((xf_284 M v2)) → True))))) ∧ (¬ ((xf_198 M v1)) → True))
theorem xl_300 {M : ro_Mm} {v1 : Int32} {v2 : Int32} (hL : ro_lay M) (hp : xp_300 M v1 v2) : ro_lay (xm_300 M v1 v2) := by
  unfold xp_300 at hp
  unfold xm_300
  by_cases hz : (xf_198 M v1)
  · have hp := hp.1 hz
    rw [if_pos hz]
    by_cases hz : v2 = (-1 : Int32)
    · have hp := hp.1 hz
      rw [if_pos hz]
      obtain ⟨q2, hp⟩ := hp
      exact hL
    · have hp := hp.2 hz
      rw [if_neg hz]
      by_cases hz : (xf_284 M v2)
      · have hp := hp.1 hz
        rw [if_pos hz]
        obtain ⟨q4, hp⟩ := hp
        exact hL
      · have hp := hp.2 hz
        rw [if_neg hz]
        exact hL
  · have hp := hp.2 hz
    rw [if_neg hz]
    exact hL
theorem xwI_300 {M : ro_Mm} {v1 : Int32} {v2 : Int32} {c j : Nat} (n0 : c ≠ 190) : (xm_300 M v1 v2).2.1 c j = M.2.1 c j := by
  unfold xm_300
  by_cases hz : (xf_198 M v1)
  · rw [if_pos hz]
    by_cases hz : v2 = (-1 : Int32)
    · rw [if_pos hz]
      first | done | exact (ro_sI_ne n0)
    · rw [if_neg hz]
      by_cases hz : (xf_284 M v2)
      · rw [if_pos hz]
        first | done | exact (ro_sI_ne n0)
      · rw [if_neg hz]
        first | done | exact rfl
  · rw [if_neg hz]
    first | done | exact rfl
theorem xwJ_300 {M : ro_Mm} {v1 : Int32} {v2 : Int32} {c j : Nat} : (xm_300 M v1 v2).2.2.1 c j = M.2.2.1 c j := by
  unfold xm_300
  by_cases hz : (xf_198 M v1)
  · rw [if_pos hz]
    by_cases hz : v2 = (-1 : Int32)
    · rw [if_pos hz]
      first | done | exact rfl
    · rw [if_neg hz]
      by_cases hz : (xf_284 M v2)
      · rw [if_pos hz]
        first | done | exact rfl
      · rw [if_neg hz]
        first | done | exact rfl
  · rw [if_neg hz]
    first | done | exact rfl
/-- RefusedOnceModel.whyNoPlace(II)I -/
def xf_303 (M : ro_Mm) (v1 : Int32) (v2 : Int32) : Int32 := (if (xf_198 M v1) then (if (M.2.1 190 (v1.toNatClampNeg)) = (-1 : Int32) then (-11 : Int32) else (if (M.2.1 190 (v1.toNatClampNeg)) < (0 : Int32) then (if (xf_195 M v2 (0 : Int32) ((M.2.1 191 (v1.toNatClampNeg)) - (1 : Int32))) then (0 : Int32) else (-13 : Int32)) else (-12 : Int32))) else (-1 : Int32))
def xp_303 (M : ro_Mm) (v1 : Int32) (v2 : Int32) : Prop := (((xf_198 M v1) → (vp_in v1 6 ∧ (((M.2.1 190 (v1.toNatClampNeg)) = (-1 : Int32) → True) ∧ (¬ ((M.2.1 190 (v1.toNatClampNeg)) = (-1 : Int32)) → (vp_in v1 6 ∧ (((M.2.1 190 (v1.toNatClampNeg)) < (0 : Int32) → (vp_in v1 6 ∧ True)) ∧ (¬ ((M.2.1 190 (v1.toNatClampNeg)) < (0 : Int32)) → True))))))) ∧ (¬ ((xf_198 M v1)) → True))
/-- RefusedOnceModel.element(II)J -/
def xf_304 (M : ro_Mm) (v1 : Int32) (v2 : Int32) : Int64 := (if (0 : Int32) ≤ (xf_303 M v1 v2) then (M.2.2.1 192 ((((60 : Int32) * v1) + v2).toNatClampNeg)) else (-9223372036854775808 : Int64))
def xp_304 (M : ro_Mm) (v1 : Int32) (v2 : Int32) : Prop := (xp_303 M v1 v2 ∧ (((0 : Int32) ≤ (xf_303 M v1 v2) → (vp_in (((60 : Int32) * v1) + v2) 360 ∧ True)) ∧ (¬ ((0 : Int32) ≤ (xf_303 M v1 v2)) → True)))
/-- RefusedOnceModel.taken(II)I -/
def xf_306 (M : ro_Mm) (v1 : Int32) (v2 : Int32) : Int32 := (if (xf_198 M v1) then (if (xf_195 M v2 (0 : Int32) (7 : Int32)) then (if (M.2.1 190 (v1.toNatClampNeg)) = (-1 : Int32) then (-11 : Int32) else (if (M.2.1 190 (v1.toNatClampNeg)) < (0 : Int32) then (-12 : Int32) else (if (xf_286 M (M.2.1 188 ((M.2.1 190 (v1.toNatClampNeg)).toNatClampNeg)) v2) then (M.2.1 188 ((M.2.1 190 (v1.toNatClampNeg)).toNatClampNeg)) else (-12 : Int32)))) else (-1 : Int32)) else (-1 : Int32))
def xp_306 (M : ro_Mm) (v1 : Int32) (v2 : Int32) : Prop := (((xf_198 M v1) → (((xf_195 M v2 (0 : Int32) (7 : Int32)) → (vp_in v1 6 ∧ (((M.2.1 190 (v1.toNatClampNeg)) = (-1 : Int32) → True) ∧ (¬ ((M.2.1 190 (v1.toNatClampNeg)) = (-1 : Int32)) → (vp_in v1 6 ∧ (((M.2.1 190 (v1.toNatClampNeg)) < (0 : Int32) → True) ∧ (¬ ((M.2.1 190 (v1.toNatClampNeg)) < (0 : Int32)) → (vp_in v1 6 ∧ (vp_in (M.2.1 190 (v1.toNatClampNeg)) 50 ∧ (((xf_286 M (M.2.1 188 ((M.2.1 190 (v1.toNatClampNeg)).toNatClampNeg)) v2) → (vp_in v1 6 ∧ (vp_in (M.2.1 190 (v1.toNatClampNeg)) 50 ∧ True))) ∧ (¬ ((xf_286 M (M.2.1 188 ((M.2.1 190 (v1.toNatClampNeg)).toNatClampNeg)) v2)) → True))))))))))) ∧ (¬ ((xf_195 M v2 (0 : Int32) (7 : Int32))) → True))) ∧ (¬ ((xf_198 M v1)) → True))
/-- RefusedOnce$Land.comes(III)Z -/
def xf_14 (M : ro_Mm) (v1 : Int32) (v2 : Int32) (v3 : Int32) : Bool := (if (xf_15 M (0 : Int32) v1) then (if (xf_15 M (1 : Int32) v2) then (if (xf_15 M (2 : Int32) v3) then (if (M.2.1 5 4) < (0 : Int32) then false else (if (M.2.1 5 4) < (6 : Int32) then true else false)) else false) else false) else false)
def xm_14 (M : ro_Mm) (v1 : Int32) (v2 : Int32) (v3 : Int32) : ro_Mm := (if (xf_15 M (0 : Int32) v1) then (if (xf_15 M (1 : Int32) v2) then (if (xf_15 M (2 : Int32) v3) then (if (M.2.1 5 4) < (0 : Int32) then M else (if (M.2.1 5 4) < (6 : Int32) then (ro_sI (ro_sI (ro_sI (xm_17 (xm_16 M 6 (M.2.1 5 4) v1) 6 (M.2.1 5 4) v2) 9 ((M.2.1 5 4).toNatClampNeg) v3) 10 ((M.2.1 5 4).toNatClampNeg) (0 : Int32)) 5 4 ((M.2.1 5 4) + (1 : Int32))) else M)) else M) else M) else M)
theorem xs_14 {X : ro_Sx} {M : ro_Mm} {v1 : Int32} {v2 : Int32} {v3 : Int32} (hL : ro_lay M) : ro_cwp X 2 14 [.ref 5, .int v1, .int v2, .int v3] M (fun v M2 => v = some (.int (ro_b (xf_14 M v1 v2 v3))) ∧ M2 = xm_14 M v1 v2 v3) := by
  refine rs_begin (lv0 := [(0, .ref 5), (1, .int v1), (2, .int v2), (3, .int v3)]) (by decide) rfl (by rw [rm_14.1]; exact Nat.le_of_ble_eq_true rfl) rfl ?_
  refine rs_iconst (v := (0 : Int32)) ri_14_0 rfl (by decide) ?_
  refine rs_iload_n ri_14_1 rfl rfl ?_
  refine rs_stat (As := [.int (0 : Int32), .int v1]) (r := []) ri_14_2 rfl rm_15.2.2.2 rfl rfl rfl (Nat.le_of_ble_eq_true rfl) (by decide) (by decide) (xs_15 (X := X) hL) ?_
  rintro _ _ ⟨e1, e2⟩
  rw [e1, e2]
  show ro_w X _ 14 _ 5 [(0, .ref 5), (1, .int v1), (2, .int v2), (3, .int v3)] [.int (ro_b (xf_15 M (0 : Int32) v1))] M (0, 0)
  refine rs_ifeq_c (t := 28) ri_14_5 rfl rfl (fun h1 => ?_) (fun h1 => ?_)
  · skip
    refine rs_iconst (v := (0 : Int32)) ri_14_28 rfl (by decide) ?_
    refine rs_istore (lv2 := [(4, .int (0 : Int32)), (0, .ref 5), (1, .int v1), (2, .int v2), (3, .int v3)]) ri_14_29 rfl rm_14.1 (by decide) rfl ?_
    refine rs_iload ri_14_31 rfl rfl ?_
    refine rs_if_eq (t := 52) ri_14_33 rfl rfl (fun h2 => ?_) (fun h2 => absurd (by decide) h2)
    refine rs_iconst (v := (0 : Int32)) ri_14_52 rfl (by decide) ?_
    refine rs_zret (p := false) ri_14_53 rm_14.2.1 (by decide) rfl ?_
    exact ⟨by unfold xf_14; first | (simp only [if_neg h1]; done) | rfl, by unfold xm_14; first | (simp only [if_neg h1]; done) | rfl⟩
  · skip
    refine rs_iconst (v := (1 : Int32)) ri_14_8 rfl (by decide) ?_
    refine rs_iload_n ri_14_9 rfl rfl ?_
    refine rs_stat (As := [.int (1 : Int32), .int v2]) (r := []) ri_14_10 rfl rm_15.2.2.2 rfl rfl rfl (Nat.le_of_ble_eq_true rfl) (by decide) (by decide) (xs_15 (X := X) hL) ?_
    rintro _ _ ⟨e1, e2⟩
    rw [e1, e2]
    show ro_w X _ 14 _ 13 [(0, .ref 5), (1, .int v1), (2, .int v2), (3, .int v3)] [.int (ro_b (xf_15 M (1 : Int32) v2))] M (0, 0)
    refine rs_ifeq_c (t := 28) ri_14_13 rfl rfl (fun h3 => ?_) (fun h3 => ?_)
    · skip
      refine rs_iconst (v := (0 : Int32)) ri_14_28 rfl (by decide) ?_
      refine rs_istore (lv2 := [(4, .int (0 : Int32)), (0, .ref 5), (1, .int v1), (2, .int v2), (3, .int v3)]) ri_14_29 rfl rm_14.1 (by decide) rfl ?_
      refine rs_iload ri_14_31 rfl rfl ?_
      refine rs_if_eq (t := 52) ri_14_33 rfl rfl (fun h4 => ?_) (fun h4 => absurd (by decide) h4)
      refine rs_iconst (v := (0 : Int32)) ri_14_52 rfl (by decide) ?_
      refine rs_zret (p := false) ri_14_53 rm_14.2.1 (by decide) rfl ?_
      exact ⟨by unfold xf_14; first | (simp only [if_pos h1, if_neg h3]; done) | rfl, by unfold xm_14; first | (simp only [if_pos h1, if_neg h3]; done) | rfl⟩
    · skip
      refine rs_iconst (v := (2 : Int32)) ri_14_16 rfl (by decide) ?_
      refine rs_iload_n ri_14_17 rfl rfl ?_
      refine rs_stat (As := [.int (2 : Int32), .int v3]) (r := []) ri_14_18 rfl rm_15.2.2.2 rfl rfl rfl (Nat.le_of_ble_eq_true rfl) (by decide) (by decide) (xs_15 (X := X) hL) ?_
      rintro _ _ ⟨e1, e2⟩
      rw [e1, e2]
      show ro_w X _ 14 _ 21 [(0, .ref 5), (1, .int v1), (2, .int v2), (3, .int v3)] [.int (ro_b (xf_15 M (2 : Int32) v3))] M (0, 0)
      refine rs_ifeq_c (t := 28) ri_14_21 rfl rfl (fun h5 => ?_) (fun h5 => ?_)
      · skip
        refine rs_iconst (v := (0 : Int32)) ri_14_28 rfl (by decide) ?_
        refine rs_istore (lv2 := [(4, .int (0 : Int32)), (0, .ref 5), (1, .int v1), (2, .int v2), (3, .int v3)]) ri_14_29 rfl rm_14.1 (by decide) rfl ?_
        refine rs_iload ri_14_31 rfl rfl ?_
        refine rs_if_eq (t := 52) ri_14_33 rfl rfl (fun h6 => ?_) (fun h6 => absurd (by decide) h6)
        refine rs_iconst (v := (0 : Int32)) ri_14_52 rfl (by decide) ?_
        refine rs_zret (p := false) ri_14_53 rm_14.2.1 (by decide) rfl ?_
        exact ⟨by unfold xf_14; first | (simp only [if_pos h1, if_pos h3, if_neg h5]; done) | rfl, by unfold xm_14; first | (simp only [if_pos h1, if_pos h3, if_neg h5]; done) | rfl⟩
      · skip
        refine rs_iconst (v := (1 : Int32)) ri_14_24 rfl (by decide) ?_
        refine rs_goto (t := 29) ri_14_25 rfl ?_
        refine rs_istore (lv2 := [(4, .int (1 : Int32)), (0, .ref 5), (1, .int v1), (2, .int v2), (3, .int v3)]) ri_14_29 rfl rm_14.1 (by decide) rfl ?_
        refine rs_iload ri_14_31 rfl rfl ?_
        refine rs_if_eq (t := 52) ri_14_33 rfl rfl (fun h7 => absurd h7 (by decide)) (fun h7 => ?_)
        refine rs_aload_n ri_14_36 rfl rfl ?_
        refine rs_gf (v := .int (M.2.1 5 4)) ri_14_37 rfl (by decide) (ro_kf (kd_5 hL)) rfl rfl ?_
        refine rs_if_lt (t := 52) ri_14_40 rfl rfl (fun h8 => ?_) (fun h8 => ?_)
        · skip
          refine rs_iconst (v := (0 : Int32)) ri_14_52 rfl (by decide) ?_
          refine rs_zret (p := false) ri_14_53 rm_14.2.1 (by decide) rfl ?_
          exact ⟨by unfold xf_14; first | (simp only [if_pos h1, if_pos h3, if_pos h5, if_pos h8]; done) | rfl, by unfold xm_14; first | (simp only [if_pos h1, if_pos h3, if_pos h5, if_pos h8]; done) | rfl⟩
        · skip
          refine rs_aload_n ri_14_43 rfl rfl ?_
          refine rs_gf (v := .int (M.2.1 5 4)) ri_14_44 rfl (by decide) (ro_kf (kd_5 hL)) rfl rfl ?_
          refine rs_bipush (v := (6 : Int32)) ri_14_47 rfl (by decide) ?_
          refine rs_icmp_lt (t := 54) ri_14_49 rfl rfl (fun h9 => ?_) (fun h9 => ?_)
          · skip
            refine rs_aload_n ri_14_54 rfl rfl ?_
            refine rs_gf (v := .ref 6) ri_14_55 rfl (by decide) (ro_kf (kd_5 hL)) rfl (rf_5_0 hL) ?_
            refine rs_aload_n ri_14_58 rfl rfl ?_
            refine rs_gf (v := .int (M.2.1 5 4)) ri_14_59 rfl (by decide) (ro_kf (kd_5 hL)) rfl rfl ?_
            refine rs_iload_n ri_14_62 rfl rfl ?_
            refine rs_virt (As := [.int (M.2.1 5 4), .int v1]) (r := []) ri_14_63 rfl (by decide) rm_16.2.2.2 rm_16.2.2.1 rfl rfl rfl (by decide) (ro_kf (kd_6 hL)) (Nat.le_of_ble_eq_true rfl) (by decide) (by decide) (xs_16 (X := X) hL (by unfold ro_ip; decide)) ?_
            rintro _ _ ⟨e1, e2⟩
            rw [e1, e2]
            show ro_w X _ 14 _ 66 [(4, .int (1 : Int32)), (0, .ref 5), (1, .int v1), (2, .int v2), (3, .int v3)] [] (xm_16 M 6 (M.2.1 5 4) v1) (0, 0)
            refine rs_aload_n ri_14_66 rfl rfl ?_
            refine rs_gf (v := .ref 6) ri_14_67 rfl (by decide) (ro_kf (kd_5 (xl_16 hL (by unfold ro_ip; decide)))) rfl (rf_5_0 (xl_16 hL (by unfold ro_ip; decide))) ?_
            refine rs_aload_n ri_14_70 rfl rfl ?_
            refine rs_gf (v := .int (M.2.1 5 4)) ri_14_71 rfl (by decide) (ro_kf (kd_5 (xl_16 hL (by unfold ro_ip; decide)))) rfl (congrArg Value.int (xwI_16 (by decide))) ?_
            refine rs_iload_n ri_14_74 rfl rfl ?_
            refine rs_virt (As := [.int (M.2.1 5 4), .int v2]) (r := []) ri_14_75 rfl (by decide) rm_17.2.2.2 rm_17.2.2.1 rfl rfl rfl (by decide) (ro_kf (kd_6 (xl_16 hL (by unfold ro_ip; decide)))) (Nat.le_of_ble_eq_true rfl) (by decide) (by decide) (xs_17 (X := X) (xl_16 hL (by unfold ro_ip; decide)) (by unfold ro_ip; decide)) ?_
            rintro _ _ ⟨e1, e2⟩
            rw [e1, e2]
            show ro_w X _ 14 _ 78 [(4, .int (1 : Int32)), (0, .ref 5), (1, .int v1), (2, .int v2), (3, .int v3)] [] (xm_17 (xm_16 M 6 (M.2.1 5 4) v1) 6 (M.2.1 5 4) v2) (0, 0)
            refine rs_aload_n ri_14_78 rfl rfl ?_
            refine rs_gf (v := .ref 9) ri_14_79 rfl (by decide) (ro_kf (kd_5 (xl_17 (xl_16 hL (by unfold ro_ip; decide)) (by unfold ro_ip; decide)))) rfl (rf_5_1 (xl_17 (xl_16 hL (by unfold ro_ip; decide)) (by unfold ro_ip; decide))) ?_
            refine rs_aload_n ri_14_82 rfl rfl ?_
            refine rs_gf (v := .int (M.2.1 5 4)) ri_14_83 rfl (by decide) (ro_kf (kd_5 (xl_17 (xl_16 hL (by unfold ro_ip; decide)) (by unfold ro_ip; decide)))) rfl (congrArg Value.int (((xwI_17 (by decide))).trans (xwI_16 (by decide)))) ?_
            refine rs_iload_n ri_14_86 rfl rfl ?_
            refine rs_iast (j := (M.2.1 5 4).toNatClampNeg) ri_14_87 rfl (by decide) (kd_9 (xl_17 (xl_16 hL (by unfold ro_ip; decide)) (by unfold ro_ip; decide))) (vp_in_iff.mpr ⟨(ro_lo1 h8), (ro_hi1 h9 (by decide))⟩) rfl ?_
            refine rs_aload_n ri_14_88 rfl rfl ?_
            refine rs_gf (v := .ref 10) ri_14_89 rfl (by decide) (ro_kf (kd_5 (xl_17 (xl_16 hL (by unfold ro_ip; decide)) (by unfold ro_ip; decide)))) rfl (rf_5_2 (xl_17 (xl_16 hL (by unfold ro_ip; decide)) (by unfold ro_ip; decide))) ?_
            refine rs_aload_n ri_14_92 rfl rfl ?_
            refine rs_gf (v := .int (M.2.1 5 4)) ri_14_93 rfl (by decide) (ro_kf (kd_5 (xl_17 (xl_16 hL (by unfold ro_ip; decide)) (by unfold ro_ip; decide)))) rfl (congrArg Value.int (((xwI_17 (by decide))).trans (xwI_16 (by decide)))) ?_
            refine rs_iconst (v := (0 : Int32)) ri_14_96 rfl (by decide) ?_
            refine rs_iast (j := (M.2.1 5 4).toNatClampNeg) ri_14_97 rfl (by decide) (kd_10 (xl_17 (xl_16 hL (by unfold ro_ip; decide)) (by unfold ro_ip; decide))) (vp_in_iff.mpr ⟨(ro_lo1 h8), (ro_hi1 h9 (by decide))⟩) rfl ?_
            refine rs_aload_n ri_14_98 rfl rfl ?_
            refine rs_dup ri_14_99 rfl rfl ?_
            refine rs_gf (v := .int (M.2.1 5 4)) ri_14_100 rfl (by decide) (ro_kf (kd_5 (xl_17 (xl_16 hL (by unfold ro_ip; decide)) (by unfold ro_ip; decide)))) rfl (congrArg Value.int (((xwI_17 (by decide))).trans (xwI_16 (by decide)))) ?_
            refine rs_iconst (v := (1 : Int32)) ri_14_103 rfl (by decide) ?_
            refine rs_iadd (r := ((M.2.1 5 4) + (1 : Int32))) ri_14_104 rfl rfl ?_
            refine rs_pf (M2 := (ro_sI (ro_sI (ro_sI (xm_17 (xm_16 M 6 (M.2.1 5 4) v1) 6 (M.2.1 5 4) v2) 9 ((M.2.1 5 4).toNatClampNeg) v3) 10 ((M.2.1 5 4).toNatClampNeg) (0 : Int32)) 5 4 ((M.2.1 5 4) + (1 : Int32)))) ri_14_105 rfl (by decide) (ro_kf (kd_5 (xl_17 (xl_16 hL (by unfold ro_ip; decide)) (by unfold ro_ip; decide)))) (fun h => absurd h (by decide)) (fun f h => h) ?_
            refine rs_iconst (v := (1 : Int32)) ri_14_108 rfl (by decide) ?_
            refine rs_zret (p := true) ri_14_109 rm_14.2.1 (by decide) rfl ?_
            exact ⟨by unfold xf_14; first | (simp only [if_pos h1, if_pos h3, if_pos h5, if_neg h8, if_pos h9]; done) | rfl, by unfold xm_14; first | (simp only [if_pos h1, if_pos h3, if_pos h5, if_neg h8, if_pos h9]; done) | rfl⟩
          · skip
            refine rs_iconst (v := (0 : Int32)) ri_14_52 rfl (by decide) ?_
            refine rs_zret (p := false) ri_14_53 rm_14.2.1 (by decide) rfl ?_
            exact ⟨by unfold xf_14; first | (simp only [if_pos h1, if_pos h3, if_pos h5, if_neg h8, if_neg h9]; done) | rfl, by unfold xm_14; first | (simp only [if_pos h1, if_pos h3, if_pos h5, if_neg h8, if_neg h9]; done) | rfl⟩
theorem xl_14 {M : ro_Mm} {v1 : Int32} {v2 : Int32} {v3 : Int32} (hL : ro_lay M) : ro_lay (xm_14 M v1 v2 v3) := by
  unfold xm_14
  by_cases hz : (xf_15 M (0 : Int32) v1)
  · skip
    rw [if_pos hz]
    by_cases hz : (xf_15 M (1 : Int32) v2)
    · skip
      rw [if_pos hz]
      by_cases hz : (xf_15 M (2 : Int32) v3)
      · skip
        rw [if_pos hz]
        by_cases hz : (M.2.1 5 4) < (0 : Int32)
        · skip
          rw [if_pos hz]
          exact hL
        · skip
          rw [if_neg hz]
          by_cases hz : (M.2.1 5 4) < (6 : Int32)
          · skip
            rw [if_pos hz]
            exact (xl_17 (xl_16 hL (by unfold ro_ip; decide)) (by unfold ro_ip; decide))
          · skip
            rw [if_neg hz]
            exact hL
      · skip
        rw [if_neg hz]
        exact hL
    · skip
      rw [if_neg hz]
      exact hL
  · skip
    rw [if_neg hz]
    exact hL
theorem xwI_14 {M : ro_Mm} {v1 : Int32} {v2 : Int32} {v3 : Int32} {c j : Nat} (n0 : c ≠ 7) (n1 : c ≠ 8) (n2 : c ≠ 9) (n3 : c ≠ 10) (n4 : c ≠ 5) : (xm_14 M v1 v2 v3).2.1 c j = M.2.1 c j := by
  unfold xm_14
  by_cases hz : (xf_15 M (0 : Int32) v1)
  · rw [if_pos hz]
    by_cases hz : (xf_15 M (1 : Int32) v2)
    · rw [if_pos hz]
      by_cases hz : (xf_15 M (2 : Int32) v3)
      · rw [if_pos hz]
        by_cases hz : (M.2.1 5 4) < (0 : Int32)
        · rw [if_pos hz]
          first | done | exact rfl
        · rw [if_neg hz]
          by_cases hz : (M.2.1 5 4) < (6 : Int32)
          · rw [if_pos hz]
            first | done | exact ((((((ro_sI_ne n4)).trans (ro_sI_ne n3)).trans (ro_sI_ne n2)).trans (xwI_17 n1)).trans (xwI_16 n0))
          · rw [if_neg hz]
            first | done | exact rfl
      · rw [if_neg hz]
        first | done | exact rfl
    · rw [if_neg hz]
      first | done | exact rfl
  · rw [if_neg hz]
    first | done | exact rfl
theorem xwJ_14 {M : ro_Mm} {v1 : Int32} {v2 : Int32} {v3 : Int32} {c j : Nat} : (xm_14 M v1 v2 v3).2.2.1 c j = M.2.2.1 c j := by
  unfold xm_14
  by_cases hz : (xf_15 M (0 : Int32) v1)
  · rw [if_pos hz]
    by_cases hz : (xf_15 M (1 : Int32) v2)
    · rw [if_pos hz]
      by_cases hz : (xf_15 M (2 : Int32) v3)
      · rw [if_pos hz]
        by_cases hz : (M.2.1 5 4) < (0 : Int32)
        · rw [if_pos hz]
          first | done | exact rfl
        · rw [if_neg hz]
          by_cases hz : (M.2.1 5 4) < (6 : Int32)
          · rw [if_pos hz]
            first | done | exact (((xwJ_17)).trans (xwJ_16))
          · rw [if_neg hz]
            first | done | exact rfl
      · rw [if_neg hz]
        first | done | exact rfl
    · rw [if_neg hz]
      first | done | exact rfl
  · rw [if_neg hz]
    first | done | exact rfl
/-- RefusedOnce$Shelf.byteAt(I)I -/
def xf_25 (M : ro_Mm) (c0 : Nat) (v1 : Int32) : Int32 := ((xf_26 M c0 v1).toInt32)
theorem xs_25 {X : ro_Sx} {M : ro_Mm} {c0 : Nat} {v1 : Int32} (hL : ro_lay M) (hc0 : ro_is c0) : ro_cwp X 2 25 [.ref c0, .int v1] M (fun v M2 => v = some (.int (xf_25 M c0 v1)) ∧ M2 = M) := by
  refine rs_begin (lv0 := [(0, .ref c0), (1, .int v1)]) (by decide) rfl (by rw [rm_25.1]; exact Nat.le_of_ble_eq_true rfl) rfl ?_
  refine rs_aload_n ri_25_0 rfl rfl ?_
  refine rs_iload_n ri_25_1 rfl rfl ?_
  refine rs_virt (As := [.int v1]) (r := []) ri_25_2 rfl (by decide) rm_26.2.2.2 rm_26.2.2.1 rfl rfl rfl (ro_is4 hc0) (ro_kf (is_kd hL hc0)) (Nat.le_of_ble_eq_true rfl) (by decide) (by decide) (xs_26 (X := X) hL hc0) ?_
  rintro _ _ ⟨e1, e2⟩
  rw [e1, e2]
  show ro_w X _ 25 _ 5 [(0, .ref c0), (1, .int v1)] [.long (xf_26 M c0 v1)] M (0, 0)
  refine rs_l2i (r := ((xf_26 M c0 v1).toInt32)) ri_25_5 rfl rfl ?_
  refine rs_iret ri_25_6 rm_25.2.1 (by decide) ?_
  exact ⟨by rfl, by rfl⟩
/-- RefusedOnce$Land.has(II)Z -/
def xf_28 (M : ro_Mm) (v1 : Int32) (v2 : Int32) : Bool := (if v2 < (0 : Int32) then (if v2 < (4 : Int32) then false else (if (6 : Int32) < v2 then false else (if v1 = (0 : Int32) then true else false))) else (if (3 : Int32) < v2 then (if v2 < (4 : Int32) then false else (if (6 : Int32) < v2 then false else (if v1 = (0 : Int32) then true else false))) else (xf_29 M v1)))
theorem xs_28 {X : ro_Sx} {M : ro_Mm} {v1 : Int32} {v2 : Int32} (hL : ro_lay M) : ro_cwp X 2 28 [.ref 5, .int v1, .int v2] M (fun v M2 => v = some (.int (ro_b (xf_28 M v1 v2))) ∧ M2 = M) := by
  refine rs_begin (lv0 := [(0, .ref 5), (1, .int v1), (2, .int v2)]) (by decide) rfl (by rw [rm_28.1]; exact Nat.le_of_ble_eq_true rfl) rfl ?_
  refine rs_iload_n ri_28_0 rfl rfl ?_
  refine rs_if_lt (t := 15) ri_28_1 rfl rfl (fun h1 => ?_) (fun h1 => ?_)
  · skip
    refine rs_iload_n ri_28_15 rfl rfl ?_
    refine rs_iconst (v := (4 : Int32)) ri_28_16 rfl (by decide) ?_
    refine rs_icmp_lt (t := 34) ri_28_17 rfl rfl (fun h2 => ?_) (fun h2 => ?_)
    · skip
      refine rs_iconst (v := (0 : Int32)) ri_28_34 rfl (by decide) ?_
      refine rs_zret (p := false) ri_28_35 rm_28.2.1 (by decide) rfl ?_
      exact ⟨by unfold xf_28; first | (simp only [if_pos h1, if_pos h2]; done) | rfl, by rfl⟩
    · skip
      refine rs_iload_n ri_28_20 rfl rfl ?_
      refine rs_bipush (v := (6 : Int32)) ri_28_21 rfl (by decide) ?_
      refine rs_icmp_gt (t := 34) ri_28_23 rfl rfl (fun h3 => ?_) (fun h3 => ?_)
      · skip
        refine rs_iconst (v := (0 : Int32)) ri_28_34 rfl (by decide) ?_
        refine rs_zret (p := false) ri_28_35 rm_28.2.1 (by decide) rfl ?_
        exact ⟨by unfold xf_28; first | (simp only [if_pos h1, if_neg h2, if_pos h3]; done) | rfl, by rfl⟩
      · skip
        refine rs_iload_n ri_28_26 rfl rfl ?_
        refine rs_if_ne (t := 34) ri_28_27 rfl rfl (fun h4 => ?_) (fun h4 => ?_)
        · skip
          refine rs_iconst (v := (0 : Int32)) ri_28_34 rfl (by decide) ?_
          refine rs_zret (p := false) ri_28_35 rm_28.2.1 (by decide) rfl ?_
          exact ⟨by unfold xf_28; first | (simp only [if_pos h1, if_neg h2, if_neg h3, if_neg h4]; done) | rfl, by rfl⟩
        · skip
          refine rs_iconst (v := (1 : Int32)) ri_28_30 rfl (by decide) ?_
          refine rs_goto (t := 35) ri_28_31 rfl ?_
          refine rs_zret (p := true) ri_28_35 rm_28.2.1 (by decide) rfl ?_
          exact ⟨by unfold xf_28; first | (simp only [if_pos h1, if_neg h2, if_neg h3, if_pos h4]; done) | rfl, by rfl⟩
  · skip
    refine rs_iload_n ri_28_4 rfl rfl ?_
    refine rs_iconst (v := (3 : Int32)) ri_28_5 rfl (by decide) ?_
    refine rs_icmp_gt (t := 15) ri_28_6 rfl rfl (fun h5 => ?_) (fun h5 => ?_)
    · skip
      refine rs_iload_n ri_28_15 rfl rfl ?_
      refine rs_iconst (v := (4 : Int32)) ri_28_16 rfl (by decide) ?_
      refine rs_icmp_lt (t := 34) ri_28_17 rfl rfl (fun h6 => ?_) (fun h6 => ?_)
      · skip
        refine rs_iconst (v := (0 : Int32)) ri_28_34 rfl (by decide) ?_
        refine rs_zret (p := false) ri_28_35 rm_28.2.1 (by decide) rfl ?_
        exact ⟨by unfold xf_28; first | (simp only [if_neg h1, if_pos h5, if_pos h6]; done) | rfl, by rfl⟩
      · skip
        refine rs_iload_n ri_28_20 rfl rfl ?_
        refine rs_bipush (v := (6 : Int32)) ri_28_21 rfl (by decide) ?_
        refine rs_icmp_gt (t := 34) ri_28_23 rfl rfl (fun h7 => ?_) (fun h7 => ?_)
        · skip
          refine rs_iconst (v := (0 : Int32)) ri_28_34 rfl (by decide) ?_
          refine rs_zret (p := false) ri_28_35 rm_28.2.1 (by decide) rfl ?_
          exact ⟨by unfold xf_28; first | (simp only [if_neg h1, if_pos h5, if_neg h6, if_pos h7]; done) | rfl, by rfl⟩
        · skip
          refine rs_iload_n ri_28_26 rfl rfl ?_
          refine rs_if_ne (t := 34) ri_28_27 rfl rfl (fun h8 => ?_) (fun h8 => ?_)
          · skip
            refine rs_iconst (v := (0 : Int32)) ri_28_34 rfl (by decide) ?_
            refine rs_zret (p := false) ri_28_35 rm_28.2.1 (by decide) rfl ?_
            exact ⟨by unfold xf_28; first | (simp only [if_neg h1, if_pos h5, if_neg h6, if_neg h7, if_neg h8]; done) | rfl, by rfl⟩
          · skip
            refine rs_iconst (v := (1 : Int32)) ri_28_30 rfl (by decide) ?_
            refine rs_goto (t := 35) ri_28_31 rfl ?_
            refine rs_zret (p := true) ri_28_35 rm_28.2.1 (by decide) rfl ?_
            exact ⟨by unfold xf_28; first | (simp only [if_neg h1, if_pos h5, if_neg h6, if_neg h7, if_pos h8]; done) | rfl, by rfl⟩
    · skip
      refine rs_aload_n ri_28_9 rfl rfl ?_
      refine rs_iload_n ri_28_10 rfl rfl ?_
      refine rs_virt (As := [.int v1]) (r := []) ri_28_11 rfl (by decide) rm_29.2.2.2 rm_29.2.2.1 rfl rfl rfl (by decide) (ro_kf (kd_5 hL)) (Nat.le_of_ble_eq_true rfl) (by decide) (by decide) (xs_29 (X := X) hL) ?_
      rintro _ _ ⟨e1, e2⟩
      rw [e1, e2]
      show ro_w X _ 28 _ 14 [(0, .ref 5), (1, .int v1), (2, .int v2)] [.int (ro_b (xf_29 M v1))] M (0, 0)
      refine rs_zret (p := (xf_29 M v1)) ri_28_14 rm_28.2.1 (by decide) rfl ?_
      exact ⟨by unfold xf_28; first | (simp only [if_neg h1, if_neg h5]; done) | rfl, by rfl⟩
/-- RefusedOnce$Land.told(II)I -/
def xf_30 (M : ro_Mm) (v1 : Int32) (v2 : Int32) : Int32 := (if v2 = (0 : Int32) then (xf_31 M 6 v1) else (if v2 = (1 : Int32) then (xf_32 M 6 v1) else (if v2 = (2 : Int32) then (if v1 < (0 : Int32) then (0 : Int32) else (if (6 : Int32) ≤ v1 then (0 : Int32) else (M.2.1 9 (v1.toNatClampNeg)))) else (if v2 = (3 : Int32) then (if v1 < (0 : Int32) then (0 : Int32) else (if (6 : Int32) ≤ v1 then (0 : Int32) else (M.2.1 10 (v1.toNatClampNeg)))) else (if v2 = (4 : Int32) then (M.2.1 5 5) else (if v2 = (5 : Int32) then (M.2.1 5 6) else (if v2 = (6 : Int32) then (M.2.1 5 7) else (0 : Int32))))))))
theorem xs_30 {X : ro_Sx} {M : ro_Mm} {v1 : Int32} {v2 : Int32} (hL : ro_lay M) : ro_cwp X 2 30 [.ref 5, .int v1, .int v2] M (fun v M2 => v = some (.int (xf_30 M v1 v2)) ∧ M2 = M) := by
  refine rs_begin (lv0 := [(0, .ref 5), (1, .int v1), (2, .int v2)]) (by decide) rfl (by rw [rm_30.1]; exact Nat.le_of_ble_eq_true rfl) rfl ?_
  refine rs_iload_n ri_30_0 rfl rfl ?_
  by_cases h1 : v2 = (0 : Int32)
  · skip
    refine rs_swIn (o := 43) (t := 44) ri_30_1 (by rw [h1]; first | done | decide) (by rw [h1]; first | done | decide) (by rw [h1]; first | done | rfl) rfl ?_
    refine rs_aload_n ri_30_44 rfl rfl ?_
    refine rs_gf (v := .ref 6) ri_30_45 rfl (by decide) (ro_kf (kd_5 hL)) rfl (rf_5_0 hL) ?_
    refine rs_iload_n ri_30_48 rfl rfl ?_
    refine rs_virt (As := [.int v1]) (r := []) ri_30_49 rfl (by decide) rm_31.2.2.2 rm_31.2.2.1 rfl rfl rfl (by decide) (ro_kf (kd_6 hL)) (Nat.le_of_ble_eq_true rfl) (by decide) (by decide) (xs_31 (X := X) hL (by unfold ro_ip; decide)) ?_
    rintro _ _ ⟨e1, e2⟩
    rw [e1, e2]
    show ro_w X _ 30 _ 52 [(0, .ref 5), (1, .int v1), (2, .int v2)] [.int (xf_31 M 6 v1)] M (0, 0)
    refine rs_iret ri_30_52 rm_30.2.1 (by decide) ?_
    exact ⟨by unfold xf_30; first | (simp only [if_pos h1]; done) | rfl, by rfl⟩
  · skip
    by_cases h2 : v2 = (1 : Int32)
    · skip
      refine rs_swIn (o := 52) (t := 53) ri_30_1 (by rw [h2]; first | done | decide) (by rw [h2]; first | done | decide) (by rw [h2]; first | done | rfl) rfl ?_
      refine rs_aload_n ri_30_53 rfl rfl ?_
      refine rs_gf (v := .ref 6) ri_30_54 rfl (by decide) (ro_kf (kd_5 hL)) rfl (rf_5_0 hL) ?_
      refine rs_iload_n ri_30_57 rfl rfl ?_
      refine rs_virt (As := [.int v1]) (r := []) ri_30_58 rfl (by decide) rm_32.2.2.2 rm_32.2.2.1 rfl rfl rfl (by decide) (ro_kf (kd_6 hL)) (Nat.le_of_ble_eq_true rfl) (by decide) (by decide) (xs_32 (X := X) hL (by unfold ro_ip; decide)) ?_
      rintro _ _ ⟨e1, e2⟩
      rw [e1, e2]
      show ro_w X _ 30 _ 61 [(0, .ref 5), (1, .int v1), (2, .int v2)] [.int (xf_32 M 6 v1)] M (0, 0)
      refine rs_iret ri_30_61 rm_30.2.1 (by decide) ?_
      exact ⟨by unfold xf_30; first | (simp only [if_neg h1, if_pos h2]; done) | rfl, by rfl⟩
    · skip
      by_cases h3 : v2 = (2 : Int32)
      · skip
        refine rs_swIn (o := 61) (t := 62) ri_30_1 (by rw [h3]; first | done | decide) (by rw [h3]; first | done | decide) (by rw [h3]; first | done | rfl) rfl ?_
        refine rs_iload_n ri_30_62 rfl rfl ?_
        refine rs_if_lt (t := 84) ri_30_63 rfl rfl (fun h4 => ?_) (fun h4 => ?_)
        · skip
          refine rs_iconst (v := (0 : Int32)) ri_30_84 rfl (by decide) ?_
          refine rs_iret ri_30_85 rm_30.2.1 (by decide) ?_
          exact ⟨by unfold xf_30; first | (simp only [if_neg h1, if_neg h2, if_pos h3, if_pos h4]; done) | rfl, by rfl⟩
        · skip
          refine rs_iload_n ri_30_66 rfl rfl ?_
          refine rs_aload_n ri_30_67 rfl rfl ?_
          refine rs_gf (v := .ref 9) ri_30_68 rfl (by decide) (ro_kf (kd_5 hL)) rfl (rf_5_1 hL) ?_
          refine rs_len (v := (6 : Int32)) ri_30_71 rfl (by decide) (kd_9 hL) (by decide) rfl ?_
          refine rs_icmp_ge (t := 84) ri_30_72 rfl rfl (fun h5 => ?_) (fun h5 => ?_)
          · skip
            refine rs_iconst (v := (0 : Int32)) ri_30_84 rfl (by decide) ?_
            refine rs_iret ri_30_85 rm_30.2.1 (by decide) ?_
            exact ⟨by unfold xf_30; first | (simp only [if_neg h1, if_neg h2, if_pos h3, if_neg h4, if_pos h5]; done) | rfl, by rfl⟩
          · skip
            refine rs_aload_n ri_30_75 rfl rfl ?_
            refine rs_gf (v := .ref 9) ri_30_76 rfl (by decide) (ro_kf (kd_5 hL)) rfl (rf_5_1 hL) ?_
            refine rs_iload_n ri_30_79 rfl rfl ?_
            refine rs_iald (v := (M.2.1 9 (v1.toNatClampNeg))) ri_30_80 rfl (by decide) (kd_9 hL) (vp_in_iff.mpr ⟨(ro_lo1 h4), (ro_hi2 h5 (by decide))⟩) rfl ?_
            refine rs_goto (t := 85) ri_30_81 rfl ?_
            refine rs_iret ri_30_85 rm_30.2.1 (by decide) ?_
            exact ⟨by unfold xf_30; first | (simp only [if_neg h1, if_neg h2, if_pos h3, if_neg h4, if_neg h5]; done) | rfl, by rfl⟩
      · skip
        by_cases h6 : v2 = (3 : Int32)
        · skip
          refine rs_swIn (o := 85) (t := 86) ri_30_1 (by rw [h6]; first | done | decide) (by rw [h6]; first | done | decide) (by rw [h6]; first | done | rfl) rfl ?_
          refine rs_iload_n ri_30_86 rfl rfl ?_
          refine rs_if_lt (t := 108) ri_30_87 rfl rfl (fun h7 => ?_) (fun h7 => ?_)
          · skip
            refine rs_iconst (v := (0 : Int32)) ri_30_108 rfl (by decide) ?_
            refine rs_iret ri_30_109 rm_30.2.1 (by decide) ?_
            exact ⟨by unfold xf_30; first | (simp only [if_neg h1, if_neg h2, if_neg h3, if_pos h6, if_pos h7]; done) | rfl, by rfl⟩
          · skip
            refine rs_iload_n ri_30_90 rfl rfl ?_
            refine rs_aload_n ri_30_91 rfl rfl ?_
            refine rs_gf (v := .ref 10) ri_30_92 rfl (by decide) (ro_kf (kd_5 hL)) rfl (rf_5_2 hL) ?_
            refine rs_len (v := (6 : Int32)) ri_30_95 rfl (by decide) (kd_10 hL) (by decide) rfl ?_
            refine rs_icmp_ge (t := 108) ri_30_96 rfl rfl (fun h8 => ?_) (fun h8 => ?_)
            · skip
              refine rs_iconst (v := (0 : Int32)) ri_30_108 rfl (by decide) ?_
              refine rs_iret ri_30_109 rm_30.2.1 (by decide) ?_
              exact ⟨by unfold xf_30; first | (simp only [if_neg h1, if_neg h2, if_neg h3, if_pos h6, if_neg h7, if_pos h8]; done) | rfl, by rfl⟩
            · skip
              refine rs_aload_n ri_30_99 rfl rfl ?_
              refine rs_gf (v := .ref 10) ri_30_100 rfl (by decide) (ro_kf (kd_5 hL)) rfl (rf_5_2 hL) ?_
              refine rs_iload_n ri_30_103 rfl rfl ?_
              refine rs_iald (v := (M.2.1 10 (v1.toNatClampNeg))) ri_30_104 rfl (by decide) (kd_10 hL) (vp_in_iff.mpr ⟨(ro_lo1 h7), (ro_hi2 h8 (by decide))⟩) rfl ?_
              refine rs_goto (t := 109) ri_30_105 rfl ?_
              refine rs_iret ri_30_109 rm_30.2.1 (by decide) ?_
              exact ⟨by unfold xf_30; first | (simp only [if_neg h1, if_neg h2, if_neg h3, if_pos h6, if_neg h7, if_neg h8]; done) | rfl, by rfl⟩
        · skip
          by_cases h9 : v2 = (4 : Int32)
          · skip
            refine rs_swIn (o := 109) (t := 110) ri_30_1 (by rw [h9]; first | done | decide) (by rw [h9]; first | done | decide) (by rw [h9]; first | done | rfl) rfl ?_
            refine rs_aload_n ri_30_110 rfl rfl ?_
            refine rs_gf (v := .int (M.2.1 5 5)) ri_30_111 rfl (by decide) (ro_kf (kd_5 hL)) rfl rfl ?_
            refine rs_iret ri_30_114 rm_30.2.1 (by decide) ?_
            exact ⟨by unfold xf_30; first | (simp only [if_neg h1, if_neg h2, if_neg h3, if_neg h6, if_pos h9]; done) | rfl, by rfl⟩
          · skip
            by_cases h10 : v2 = (5 : Int32)
            · skip
              refine rs_swIn (o := 114) (t := 115) ri_30_1 (by rw [h10]; first | done | decide) (by rw [h10]; first | done | decide) (by rw [h10]; first | done | rfl) rfl ?_
              refine rs_aload_n ri_30_115 rfl rfl ?_
              refine rs_gf (v := .int (M.2.1 5 6)) ri_30_116 rfl (by decide) (ro_kf (kd_5 hL)) rfl rfl ?_
              refine rs_iret ri_30_119 rm_30.2.1 (by decide) ?_
              exact ⟨by unfold xf_30; first | (simp only [if_neg h1, if_neg h2, if_neg h3, if_neg h6, if_neg h9, if_pos h10]; done) | rfl, by rfl⟩
            · skip
              by_cases h11 : v2 = (6 : Int32)
              · skip
                refine rs_swIn (o := 119) (t := 120) ri_30_1 (by rw [h11]; first | done | decide) (by rw [h11]; first | done | decide) (by rw [h11]; first | done | rfl) rfl ?_
                refine rs_aload_n ri_30_120 rfl rfl ?_
                refine rs_gf (v := .int (M.2.1 5 7)) ri_30_121 rfl (by decide) (ro_kf (kd_5 hL)) rfl rfl ?_
                refine rs_iret ri_30_124 rm_30.2.1 (by decide) ?_
                exact ⟨by unfold xf_30; first | (simp only [if_neg h1, if_neg h2, if_neg h3, if_neg h6, if_neg h9, if_neg h10, if_pos h11]; done) | rfl, by rfl⟩
              · skip
                refine rs_swOut (t := 125) ri_30_1 (by have g0 := ro_ne_i (z := 0) h1 rfl; have g1 := ro_ne_i (z := 1) h2 rfl; have g2 := ro_ne_i (z := 2) h3 rfl; have g3 := ro_ne_i (z := 3) h6 rfl; have g4 := ro_ne_i (z := 4) h9 rfl; have g5 := ro_ne_i (z := 5) h10 rfl; have g6 := ro_ne_i (z := 6) h11 rfl; omega) rfl ?_
                refine rs_iconst (v := (0 : Int32)) ri_30_125 rfl (by decide) ?_
                refine rs_iret ri_30_126 rm_30.2.1 (by decide) ?_
                exact ⟨by unfold xf_30; first | (simp only [if_neg h1, if_neg h2, if_neg h3, if_neg h6, if_neg h9, if_neg h10, if_neg h11]; done) | rfl, by rfl⟩
/-- RefusedOnce$Land.farthings(LRefusedOnce$Purses;I)I -/
def xf_37 (M : ro_Mm) (c1 : Nat) (v2 : Int32) : Int32 := (xf_38 M c1 v2 (M.2.1 5 5))
theorem xs_37 {X : ro_Sx} {M : ro_Mm} {c1 : Nat} {v2 : Int32} (hL : ro_lay M) (hc1 : ro_ip c1) : ro_cwp X 3 37 [.ref 5, .ref c1, .int v2] M (fun v M2 => v = some (.int (xf_37 M c1 v2)) ∧ M2 = M) := by
  refine rs_begin (lv0 := [(0, .ref 5), (1, .ref c1), (2, .int v2)]) (by decide) rfl (by rw [rm_37.1]; exact Nat.le_of_ble_eq_true rfl) rfl ?_
  refine rs_aload_n ri_37_0 rfl rfl ?_
  refine rs_iload_n ri_37_1 rfl rfl ?_
  refine rs_aload_n ri_37_2 rfl rfl ?_
  refine rs_gf (v := .int (M.2.1 5 5)) ri_37_3 rfl (by decide) (ro_kf (kd_5 hL)) rfl rfl ?_
  refine rs_stat (As := [.ref c1, .int v2, .int (M.2.1 5 5)]) (r := []) ri_37_6 rfl rm_38.2.2.2 rfl rfl rfl (Nat.le_of_ble_eq_true rfl) (by decide) (by decide) (xs_38 (X := X) hL hc1) ?_
  rintro _ _ ⟨e1, e2⟩
  rw [e1, e2]
  show ro_w X _ 37 _ 9 [(0, .ref 5), (1, .ref c1), (2, .int v2)] [.int (xf_38 M c1 v2 (M.2.1 5 5))] M (0, 0)
  refine rs_iret ri_37_9 rm_37.2.1 (by decide) ?_
  exact ⟨by rfl, by rfl⟩
/-- RefusedOnce$Land.forgedThatCount(I)I -/
def xf_39 (M : ro_Mm) (v1 : Int32) : Int32 := (ro_min (xf_30 M v1 (3 : Int32)) (xf_32 M 6 v1))
theorem xs_39 {X : ro_Sx} {M : ro_Mm} {v1 : Int32} (hL : ro_lay M) : ro_cwp X 3 39 [.ref 5, .int v1] M (fun v M2 => v = some (.int (xf_39 M v1)) ∧ M2 = M) := by
  refine rs_begin (lv0 := [(0, .ref 5), (1, .int v1)]) (by decide) rfl (by rw [rm_39.1]; exact Nat.le_of_ble_eq_true rfl) rfl ?_
  refine rs_aload_n ri_39_0 rfl rfl ?_
  refine rs_iload_n ri_39_1 rfl rfl ?_
  refine rs_iconst (v := (3 : Int32)) ri_39_2 rfl (by decide) ?_
  refine rs_virt (As := [.int v1, .int (3 : Int32)]) (r := []) ri_39_3 rfl (by decide) rm_30.2.2.2 rm_30.2.2.1 rfl rfl rfl (by decide) (ro_kf (kd_5 hL)) (Nat.le_of_ble_eq_true rfl) (by decide) (by decide) (xs_30 (X := X) hL) ?_
  rintro _ _ ⟨e1, e2⟩
  rw [e1, e2]
  show ro_w X _ 39 _ 6 [(0, .ref 5), (1, .int v1)] [.int (xf_30 M v1 (3 : Int32))] M (0, 0)
  refine rs_aload_n ri_39_6 rfl rfl ?_
  refine rs_gf (v := .ref 6) ri_39_7 rfl (by decide) (ro_kf (kd_5 hL)) rfl (rf_5_0 hL) ?_
  refine rs_iload_n ri_39_10 rfl rfl ?_
  refine rs_virt (As := [.int v1]) (r := [.int (xf_30 M v1 (3 : Int32))]) ri_39_11 rfl (by decide) rm_32.2.2.2 rm_32.2.2.1 rfl rfl rfl (by decide) (ro_kf (kd_6 hL)) (Nat.le_of_ble_eq_true rfl) (by decide) (by decide) (xs_32 (X := X) hL (by unfold ro_ip; decide)) ?_
  rintro _ _ ⟨e1, e2⟩
  rw [e1, e2]
  show ro_w X _ 39 _ 14 [(0, .ref 5), (1, .int v1)] [.int (xf_32 M 6 v1), .int (xf_30 M v1 (3 : Int32))] M (0, 0)
  refine rs_min (r := (ro_min (xf_30 M v1 (3 : Int32)) (xf_32 M 6 v1))) ri_39_14 rfl (Nat.le_of_ble_eq_true rfl) rfl ?_
  refine rs_iret ri_39_17 rm_39.2.1 (by decide) ?_
  exact ⟨by rfl, by rfl⟩
/-- RefusedOnce.feed(I)I -/
def xf_40 (M : ro_Mm) (v1 : Int32) : Int32 := (if (xf_13 M v1 (0 : Int32) (255 : Int32)) then (if (xf_41 M v1) then (xf_42 (xm_41 M v1)) else (-3 : Int32)) else (-1 : Int32))
def xm_40 (M : ro_Mm) (v1 : Int32) : ro_Mm := (if (xf_13 M v1 (0 : Int32) (255 : Int32)) then (xm_41 M v1) else M)
theorem xs_40 {X : ro_Sx} {M : ro_Mm} {v1 : Int32} (hL : ro_lay M) : ro_cwp X 2 40 [.ref 4, .int v1] M (fun v M2 => v = some (.int (xf_40 M v1)) ∧ M2 = xm_40 M v1) := by
  refine rs_begin (lv0 := [(0, .ref 4), (1, .int v1)]) (by decide) rfl (by rw [rm_40.1]; exact Nat.le_of_ble_eq_true rfl) rfl ?_
  refine rs_iload_n ri_40_0 rfl rfl ?_
  refine rs_iconst (v := (0 : Int32)) ri_40_1 rfl (by decide) ?_
  refine rs_sipush (v := (255 : Int32)) ri_40_2 rfl (by decide) ?_
  refine rs_stat (As := [.int v1, .int (0 : Int32), .int (255 : Int32)]) (r := []) ri_40_5 rfl rm_13.2.2.2 rfl rfl rfl (Nat.le_of_ble_eq_true rfl) (by decide) (by decide) (xs_13 (X := X) hL) ?_
  rintro _ _ ⟨e1, e2⟩
  rw [e1, e2]
  show ro_w X _ 40 _ 8 [(0, .ref 4), (1, .int v1)] [.int (ro_b (xf_13 M v1 (0 : Int32) (255 : Int32)))] M (0, 0)
  refine rs_ifne_c (t := 13) ri_40_8 rfl rfl (fun h1 => ?_) (fun h1 => ?_)
  · skip
    refine rs_aload_n ri_40_13 rfl rfl ?_
    refine rs_gf (v := .ref 16) ri_40_14 rfl (by decide) (ro_kf (kd_4 hL)) rfl (rf_4_1 hL) ?_
    refine rs_iload_n ri_40_17 rfl rfl ?_
    refine rs_virt (As := [.int v1]) (r := []) ri_40_18 rfl (by decide) rm_41.2.2.2 rm_41.2.2.1 rfl rfl rfl (by decide) (ro_kf (kd_16 hL)) (Nat.le_of_ble_eq_true rfl) (by decide) (by decide) (xs_41 (X := X) hL) ?_
    rintro _ _ ⟨e1, e2⟩
    rw [e1, e2]
    show ro_w X _ 40 _ 21 [(0, .ref 4), (1, .int v1)] [.int (ro_b (xf_41 M v1))] (xm_41 M v1) (0, 0)
    refine rs_ifeq_c (t := 34) ri_40_21 rfl rfl (fun h2 => ?_) (fun h2 => ?_)
    · skip
      refine rs_bipush (v := (-3 : Int32)) ri_40_34 rfl (by decide) ?_
      refine rs_iret ri_40_36 rm_40.2.1 (by decide) ?_
      exact ⟨by unfold xf_40; first | (simp only [if_pos h1, if_neg h2]; done) | rfl, by unfold xm_40; first | (simp only [if_pos h1, if_neg h2]; done) | rfl⟩
    · skip
      refine rs_aload_n ri_40_24 rfl rfl ?_
      refine rs_gf (v := .ref 16) ri_40_25 rfl (by decide) (ro_kf (kd_4 (xl_41 hL))) rfl (rf_4_1 (xl_41 hL)) ?_
      refine rs_virt (As := []) (r := []) ri_40_28 rfl (by decide) rm_42.2.2.2 rm_42.2.2.1 rfl rfl rfl (by decide) (ro_kf (kd_16 (xl_41 hL))) (Nat.le_of_ble_eq_true rfl) (by decide) (by decide) (xs_42 (X := X) (xl_41 hL)) ?_
      rintro _ _ ⟨e1, e2⟩
      rw [e1, e2]
      show ro_w X _ 40 _ 31 [(0, .ref 4), (1, .int v1)] [.int (xf_42 (xm_41 M v1))] (xm_41 M v1) (0, 0)
      refine rs_goto (t := 36) ri_40_31 rfl ?_
      refine rs_iret ri_40_36 rm_40.2.1 (by decide) ?_
      exact ⟨by unfold xf_40; first | (simp only [if_pos h1, if_pos h2]; done) | rfl, by unfold xm_40; first | (simp only [if_pos h1, if_pos h2]; done) | rfl⟩
  · skip
    refine rs_iconst (v := (-1 : Int32)) ri_40_11 rfl (by decide) ?_
    refine rs_iret ri_40_12 rm_40.2.1 (by decide) ?_
    exact ⟨by unfold xf_40; first | (simp only [if_neg h1]; done) | rfl, by unfold xm_40; first | (simp only [if_neg h1]; done) | rfl⟩
theorem xl_40 {M : ro_Mm} {v1 : Int32} (hL : ro_lay M) : ro_lay (xm_40 M v1) := by
  unfold xm_40
  by_cases hz : (xf_13 M v1 (0 : Int32) (255 : Int32))
  · skip
    rw [if_pos hz]
    by_cases hz : (xf_41 M v1)
    · skip
      exact (xl_41 hL)
    · skip
      exact (xl_41 hL)
  · skip
    rw [if_neg hz]
    exact hL
theorem xwI_40 {M : ro_Mm} {v1 : Int32} {c j : Nat} (n0 : c ≠ 17) (n1 : c ≠ 16) : (xm_40 M v1).2.1 c j = M.2.1 c j := by
  unfold xm_40
  by_cases hz : (xf_13 M v1 (0 : Int32) (255 : Int32))
  · rw [if_pos hz]
    first | done | exact (xwI_41 n0 n1)
  · rw [if_neg hz]
    first | done | exact rfl
theorem xwJ_40 {M : ro_Mm} {v1 : Int32} {c j : Nat} : (xm_40 M v1).2.2.1 c j = M.2.2.1 c j := by
  unfold xm_40
  by_cases hz : (xf_13 M v1 (0 : Int32) (255 : Int32))
  · rw [if_pos hz]
    first | done | exact (xwJ_41)
  · rw [if_neg hz]
    first | done | exact rfl
/-- RefusedOnce.areTwo(I)Z -/
def xf_56 (M : ro_Mm) (v1 : Int32) : Bool := (if v1 < (0 : Int32) then false else (if (xf_57 M (v1 / (10 : Int32)) (ro_irem v1 (10 : Int32))) then true else false))
theorem xs_56 {X : ro_Sx} {M : ro_Mm} {v1 : Int32} (hL : ro_lay M) : ro_cwp X 3 56 [.ref 4, .int v1] M (fun v M2 => v = some (.int (ro_b (xf_56 M v1))) ∧ M2 = M) := by
  refine rs_begin (lv0 := [(0, .ref 4), (1, .int v1)]) (by decide) rfl (by rw [rm_56.1]; exact Nat.le_of_ble_eq_true rfl) rfl ?_
  refine rs_iload_n ri_56_0 rfl rfl ?_
  refine rs_if_lt (t := 26) ri_56_1 rfl rfl (fun h1 => ?_) (fun h1 => ?_)
  · skip
    refine rs_iconst (v := (0 : Int32)) ri_56_26 rfl (by decide) ?_
    refine rs_zret (p := false) ri_56_27 rm_56.2.1 (by decide) rfl ?_
    exact ⟨by unfold xf_56; first | (simp only [if_pos h1]; done) | rfl, by rfl⟩
  · skip
    refine rs_aload_n ri_56_4 rfl rfl ?_
    refine rs_gf (v := .ref 5) ri_56_5 rfl (by decide) (ro_kf (kd_4 hL)) rfl (rf_4_0 hL) ?_
    refine rs_iload_n ri_56_8 rfl rfl ?_
    refine rs_bipush (v := (10 : Int32)) ri_56_9 rfl (by decide) ?_
    refine rs_idiv (r := (v1 / (10 : Int32))) ri_56_11 rfl (by decide) rfl ?_
    refine rs_iload_n ri_56_12 rfl rfl ?_
    refine rs_bipush (v := (10 : Int32)) ri_56_13 rfl (by decide) ?_
    refine rs_irem (r := (ro_irem v1 (10 : Int32))) ri_56_15 rfl (by decide) rfl ?_
    refine rs_virt (As := [.int (v1 / (10 : Int32)), .int (ro_irem v1 (10 : Int32))]) (r := []) ri_56_16 rfl (by decide) rm_57.2.2.2 rm_57.2.2.1 rfl rfl rfl (by decide) (ro_kf (kd_5 hL)) (Nat.le_of_ble_eq_true rfl) (by decide) (by decide) (xs_57 (X := X) hL) ?_
    rintro _ _ ⟨e1, e2⟩
    rw [e1, e2]
    show ro_w X _ 56 _ 19 [(0, .ref 4), (1, .int v1)] [.int (ro_b (xf_57 M (v1 / (10 : Int32)) (ro_irem v1 (10 : Int32))))] M (0, 0)
    refine rs_ifeq_c (t := 26) ri_56_19 rfl rfl (fun h2 => ?_) (fun h2 => ?_)
    · skip
      refine rs_iconst (v := (0 : Int32)) ri_56_26 rfl (by decide) ?_
      refine rs_zret (p := false) ri_56_27 rm_56.2.1 (by decide) rfl ?_
      exact ⟨by unfold xf_56; first | (simp only [if_neg h1, if_neg h2]; done) | rfl, by rfl⟩
    · skip
      refine rs_iconst (v := (1 : Int32)) ri_56_22 rfl (by decide) ?_
      refine rs_goto (t := 27) ri_56_23 rfl ?_
      refine rs_zret (p := true) ri_56_27 rm_56.2.1 (by decide) rfl ?_
      exact ⟨by unfold xf_56; first | (simp only [if_neg h1, if_pos h2]; done) | rfl, by rfl⟩
/-- RefusedOnce$Evening.answer(IIZ)V -/
def xm_76 (M : ro_Mm) (v1 : Int32) (v2 : Int32) (v3 : Bool) : ro_Mm := (if v3 then (ro_sI (ro_sI (xm_77 M 36 v1) 35 7 ((M.2.1 35 7) + (1 : Int32))) 35 9 ((M.2.1 35 9) ||| ((1 : Int32) <<< (v2 &&& 31)))) else (xm_78 M 36 v1 v2))
theorem xs_76 {X : ro_Sx} {M : ro_Mm} {v1 : Int32} {v2 : Int32} {v3 : Bool} (hL : ro_lay M) : ro_cwp X 3 76 [.ref 35, .int v1, .int v2, .int (ro_b v3)] M (fun v M2 => v = none ∧ M2 = xm_76 M v1 v2 v3) := by
  refine rs_begin (lv0 := [(0, .ref 35), (1, .int v1), (2, .int v2), (3, .int (ro_b v3))]) (by decide) rfl (by rw [rm_76.1]; exact Nat.le_of_ble_eq_true rfl) rfl ?_
  refine rs_iload_n ri_76_0 rfl rfl ?_
  refine rs_ifeq_c (t := 37) ri_76_1 rfl rfl (fun h1 => ?_) (fun h1 => ?_)
  · skip
    refine rs_aload_n ri_76_37 rfl rfl ?_
    refine rs_gf (v := .ref 36) ri_76_38 rfl (by decide) (ro_kf (kd_35 hL)) rfl (rf_35_2 hL) ?_
    refine rs_iload_n ri_76_41 rfl rfl ?_
    refine rs_iload_n ri_76_42 rfl rfl ?_
    refine rs_virt (As := [.int v1, .int v2]) (r := []) ri_76_43 rfl (by decide) rm_78.2.2.2 rm_78.2.2.1 rfl rfl rfl (by decide) (ro_kf (kd_36 hL)) (Nat.le_of_ble_eq_true rfl) (by decide) (by decide) (xs_78 (X := X) hL (by unfold ro_ip; decide)) ?_
    rintro _ _ ⟨e1, e2⟩
    rw [e1, e2]
    show ro_w X _ 76 _ 46 [(0, .ref 35), (1, .int v1), (2, .int v2), (3, .int (ro_b v3))] [] (xm_78 M 36 v1 v2) (0, 0)
    refine rs_ret ri_76_46 rm_76.2.1 (by decide) ?_
    exact ⟨by rfl, by unfold xm_76; first | (simp only [if_neg h1]; done) | rfl⟩
  · skip
    refine rs_aload_n ri_76_4 rfl rfl ?_
    refine rs_gf (v := .ref 36) ri_76_5 rfl (by decide) (ro_kf (kd_35 hL)) rfl (rf_35_2 hL) ?_
    refine rs_iload_n ri_76_8 rfl rfl ?_
    refine rs_virt (As := [.int v1]) (r := []) ri_76_9 rfl (by decide) rm_77.2.2.2 rm_77.2.2.1 rfl rfl rfl (by decide) (ro_kf (kd_36 hL)) (Nat.le_of_ble_eq_true rfl) (by decide) (by decide) (xs_77 (X := X) hL (by unfold ro_ip; decide)) ?_
    rintro _ _ ⟨e1, e2⟩
    rw [e1, e2]
    show ro_w X _ 76 _ 12 [(0, .ref 35), (1, .int v1), (2, .int v2), (3, .int (ro_b v3))] [] (xm_77 M 36 v1) (0, 0)
    refine rs_aload_n ri_76_12 rfl rfl ?_
    refine rs_dup ri_76_13 rfl rfl ?_
    refine rs_gf (v := .int (M.2.1 35 7)) ri_76_14 rfl (by decide) (ro_kf (kd_35 (xl_77 hL (by unfold ro_ip; decide)))) rfl (congrArg Value.int (xwI_77 (by decide) (by decide))) ?_
    refine rs_iconst (v := (1 : Int32)) ri_76_17 rfl (by decide) ?_
    refine rs_iadd (r := ((M.2.1 35 7) + (1 : Int32))) ri_76_18 rfl rfl ?_
    refine rs_pf (M2 := (ro_sI (xm_77 M 36 v1) 35 7 ((M.2.1 35 7) + (1 : Int32)))) ri_76_19 rfl (by decide) (ro_kf (kd_35 (xl_77 hL (by unfold ro_ip; decide)))) (fun h => absurd h (by decide)) (fun f h => h) ?_
    refine rs_aload_n ri_76_22 rfl rfl ?_
    refine rs_dup ri_76_23 rfl rfl ?_
    refine rs_gf (v := .int (M.2.1 35 9)) ri_76_24 rfl (by decide) (ro_kf (kd_35 (xl_77 hL (by unfold ro_ip; decide)))) rfl (congrArg Value.int (xwI_77 (by decide) (by decide))) ?_
    refine rs_iconst (v := (1 : Int32)) ri_76_27 rfl (by decide) ?_
    refine rs_iload_n ri_76_28 rfl rfl ?_
    refine rs_ishl (r := ((1 : Int32) <<< (v2 &&& 31))) ri_76_29 rfl rfl ?_
    refine rs_ior (r := ((M.2.1 35 9) ||| ((1 : Int32) <<< (v2 &&& 31)))) ri_76_30 rfl rfl ?_
    refine rs_pf (M2 := (ro_sI (ro_sI (xm_77 M 36 v1) 35 7 ((M.2.1 35 7) + (1 : Int32))) 35 9 ((M.2.1 35 9) ||| ((1 : Int32) <<< (v2 &&& 31))))) ri_76_31 rfl (by decide) (ro_kf (kd_35 (xl_77 hL (by unfold ro_ip; decide)))) (fun h => absurd h (by decide)) (fun f h => h) ?_
    refine rs_goto (t := 46) ri_76_34 rfl ?_
    refine rs_ret ri_76_46 rm_76.2.1 (by decide) ?_
    exact ⟨by rfl, by unfold xm_76; first | (simp only [if_pos h1]; done) | rfl⟩
theorem xl_76 {M : ro_Mm} {v1 : Int32} {v2 : Int32} {v3 : Bool} (hL : ro_lay M) : ro_lay (xm_76 M v1 v2 v3) := by
  unfold xm_76
  by_cases hz : v3
  · skip
    rw [if_pos hz]
    exact (xl_77 hL (by unfold ro_ip; decide))
  · skip
    rw [if_neg hz]
    exact (xl_78 hL (by unfold ro_ip; decide))
theorem xwI_76 {M : ro_Mm} {v1 : Int32} {v2 : Int32} {v3 : Bool} {c j : Nat} (n0 : c ≠ 37) (n1 : c ≠ 38) (n2 : c ≠ 35) : (xm_76 M v1 v2 v3).2.1 c j = M.2.1 c j := by
  unfold xm_76
  by_cases hz : v3
  · rw [if_pos hz]
    first | done | exact ((((ro_sI_ne n2)).trans (ro_sI_ne n2)).trans (xwI_77 n0 n1))
  · rw [if_neg hz]
    first | done | exact (xwI_78 n0)
theorem xwJ_76 {M : ro_Mm} {v1 : Int32} {v2 : Int32} {v3 : Bool} {c j : Nat} : (xm_76 M v1 v2 v3).2.2.1 c j = M.2.2.1 c j := by
  unfold xm_76
  by_cases hz : v3
  · rw [if_pos hz]
    first | done | exact (xwJ_77)
  · rw [if_neg hz]
    first | done | exact (xwJ_78)
/-- RefusedOnce$Payings.weigh(II)V -/
def xm_88 (M : ro_Mm) (v1 : Int32) (v2 : Int32) : ro_Mm := (if (M.2.1 42 8) = (0 : Int32) then (if (M.2.1 42 6) ≤ v1 then (if (M.2.1 42 9) = (0 : Int32) then (ro_sI (ro_sI (ro_sI M 42 9 (1 : Int32)) 42 6 v1) 42 7 v2) else M) else (ro_sI (ro_sI (ro_sI M 42 9 (1 : Int32)) 42 6 v1) 42 7 v2)) else (if (xf_37 M 43 (M.2.1 46 0)) ≤ (M.2.1 42 6) then (if (M.2.1 42 9) = (0 : Int32) then (ro_sI (ro_sI (ro_sI M 42 9 (1 : Int32)) 42 6 (xf_37 M 43 (M.2.1 46 0))) 42 7 v2) else M) else (ro_sI (ro_sI (ro_sI M 42 9 (1 : Int32)) 42 6 (xf_37 M 43 (M.2.1 46 0))) 42 7 v2)))
theorem xs_88 {X : ro_Sx} {M : ro_Mm} {v1 : Int32} {v2 : Int32} (hL : ro_lay M) : ro_cwp X 4 88 [.ref 42, .int v1, .int v2] M (fun v M2 => v = none ∧ M2 = xm_88 M v1 v2) := by
  refine rs_begin (lv0 := [(0, .ref 42), (1, .int v1), (2, .int v2)]) (by decide) rfl (by rw [rm_88.1]; exact Nat.le_of_ble_eq_true rfl) rfl ?_
  refine rs_aload_n ri_88_0 rfl rfl ?_
  refine rs_gf (v := .int (M.2.1 42 8)) ri_88_1 rfl (by decide) (ro_kf (kd_42 hL)) rfl rfl ?_
  refine rs_if_eq (t := 27) ri_88_4 rfl rfl (fun h1 => ?_) (fun h1 => ?_)
  · skip
    refine rs_iload_n ri_88_27 rfl rfl ?_
    refine rs_istore_n (lv2 := [(3, .int v1), (0, .ref 42), (1, .int v1), (2, .int v2)]) ri_88_28 rfl rm_88.1 (by decide) rfl ?_
    refine rs_aload_n ri_88_29 rfl rfl ?_
    refine rs_gf (v := .int (M.2.1 42 8)) ri_88_30 rfl (by decide) (ro_kf (kd_42 hL)) rfl rfl ?_
    refine rs_if_eq (t := 52) ri_88_33 rfl rfl (fun h2 => ?_) (fun h2 => absurd h1 h2)
    refine rs_iload_n ri_88_52 rfl rfl ?_
    refine rs_aload_n ri_88_53 rfl rfl ?_
    refine rs_gf (v := .int (M.2.1 42 6)) ri_88_54 rfl (by decide) (ro_kf (kd_42 hL)) rfl rfl ?_
    refine rs_icmp_ge (t := 64) ri_88_57 rfl rfl (fun h3 => ?_) (fun h3 => ?_)
    · skip
      refine rs_iconst (v := (0 : Int32)) ri_88_64 rfl (by decide) ?_
      refine rs_istore (lv2 := [(4, .int (0 : Int32)), (3, .int v1), (0, .ref 42), (1, .int v1), (2, .int v2)]) ri_88_65 rfl rm_88.1 (by decide) rfl ?_
      refine rs_aload_n ri_88_67 rfl rfl ?_
      refine rs_gf (v := .int (M.2.1 42 9)) ri_88_68 rfl (by decide) (ro_kf (kd_42 hL)) rfl rfl ?_
      refine rs_if_eq (t := 79) ri_88_71 rfl rfl (fun h4 => ?_) (fun h4 => ?_)
      · skip
        refine rs_aload_n ri_88_79 rfl rfl ?_
        refine rs_iconst (v := (1 : Int32)) ri_88_80 rfl (by decide) ?_
        refine rs_pf (M2 := (ro_sI M 42 9 (1 : Int32))) ri_88_81 rfl (by decide) (ro_kf (kd_42 hL)) (fun h => absurd h (by decide)) (fun f h => ⟨by decide, h⟩) ?_
        refine rs_aload_n ri_88_84 rfl rfl ?_
        refine rs_iload_n ri_88_85 rfl rfl ?_
        refine rs_pf (M2 := (ro_sI (ro_sI M 42 9 (1 : Int32)) 42 6 v1)) ri_88_86 rfl (by decide) (ro_kf (kd_42 hL)) (fun h => absurd h (by decide)) (fun f h => h) ?_
        refine rs_aload_n ri_88_89 rfl rfl ?_
        refine rs_iload_n ri_88_90 rfl rfl ?_
        refine rs_pf (M2 := (ro_sI (ro_sI (ro_sI M 42 9 (1 : Int32)) 42 6 v1) 42 7 v2)) ri_88_91 rfl (by decide) (ro_kf (kd_42 hL)) (fun h => absurd h (by decide)) (fun f h => h) ?_
        refine rs_ret ri_88_94 rm_88.2.1 (by decide) ?_
        exact ⟨by rfl, by unfold xm_88; first | (simp only [if_pos h1, if_pos h3, if_pos h4]; done) | rfl⟩
      · skip
        refine rs_iload ri_88_74 rfl rfl ?_
        refine rs_if_eq (t := 94) ri_88_76 rfl rfl (fun h5 => ?_) (fun h5 => absurd (by decide) h5)
        refine rs_ret ri_88_94 rm_88.2.1 (by decide) ?_
        exact ⟨by rfl, by unfold xm_88; first | (simp only [if_pos h1, if_pos h3, if_neg h4]; done) | rfl⟩
    · skip
      refine rs_iconst (v := (1 : Int32)) ri_88_60 rfl (by decide) ?_
      refine rs_goto (t := 65) ri_88_61 rfl ?_
      refine rs_istore (lv2 := [(4, .int (1 : Int32)), (3, .int v1), (0, .ref 42), (1, .int v1), (2, .int v2)]) ri_88_65 rfl rm_88.1 (by decide) rfl ?_
      refine rs_aload_n ri_88_67 rfl rfl ?_
      refine rs_gf (v := .int (M.2.1 42 9)) ri_88_68 rfl (by decide) (ro_kf (kd_42 hL)) rfl rfl ?_
      refine rs_if_eq (t := 79) ri_88_71 rfl rfl (fun h6 => ?_) (fun h6 => ?_)
      · skip
        refine rs_aload_n ri_88_79 rfl rfl ?_
        refine rs_iconst (v := (1 : Int32)) ri_88_80 rfl (by decide) ?_
        refine rs_pf (M2 := (ro_sI M 42 9 (1 : Int32))) ri_88_81 rfl (by decide) (ro_kf (kd_42 hL)) (fun h => absurd h (by decide)) (fun f h => ⟨by decide, h⟩) ?_
        refine rs_aload_n ri_88_84 rfl rfl ?_
        refine rs_iload_n ri_88_85 rfl rfl ?_
        refine rs_pf (M2 := (ro_sI (ro_sI M 42 9 (1 : Int32)) 42 6 v1)) ri_88_86 rfl (by decide) (ro_kf (kd_42 hL)) (fun h => absurd h (by decide)) (fun f h => h) ?_
        refine rs_aload_n ri_88_89 rfl rfl ?_
        refine rs_iload_n ri_88_90 rfl rfl ?_
        refine rs_pf (M2 := (ro_sI (ro_sI (ro_sI M 42 9 (1 : Int32)) 42 6 v1) 42 7 v2)) ri_88_91 rfl (by decide) (ro_kf (kd_42 hL)) (fun h => absurd h (by decide)) (fun f h => h) ?_
        refine rs_ret ri_88_94 rm_88.2.1 (by decide) ?_
        exact ⟨by rfl, by unfold xm_88; first | (simp only [if_pos h1, if_neg h3, if_pos h6]; done) | rfl⟩
      · skip
        refine rs_iload ri_88_74 rfl rfl ?_
        refine rs_if_eq (t := 94) ri_88_76 rfl rfl (fun h7 => absurd h7 (by decide)) (fun h7 => ?_)
        refine rs_aload_n ri_88_79 rfl rfl ?_
        refine rs_iconst (v := (1 : Int32)) ri_88_80 rfl (by decide) ?_
        refine rs_pf (M2 := (ro_sI M 42 9 (1 : Int32))) ri_88_81 rfl (by decide) (ro_kf (kd_42 hL)) (fun h => absurd h (by decide)) (fun f h => ⟨by decide, h⟩) ?_
        refine rs_aload_n ri_88_84 rfl rfl ?_
        refine rs_iload_n ri_88_85 rfl rfl ?_
        refine rs_pf (M2 := (ro_sI (ro_sI M 42 9 (1 : Int32)) 42 6 v1)) ri_88_86 rfl (by decide) (ro_kf (kd_42 hL)) (fun h => absurd h (by decide)) (fun f h => h) ?_
        refine rs_aload_n ri_88_89 rfl rfl ?_
        refine rs_iload_n ri_88_90 rfl rfl ?_
        refine rs_pf (M2 := (ro_sI (ro_sI (ro_sI M 42 9 (1 : Int32)) 42 6 v1) 42 7 v2)) ri_88_91 rfl (by decide) (ro_kf (kd_42 hL)) (fun h => absurd h (by decide)) (fun f h => h) ?_
        refine rs_ret ri_88_94 rm_88.2.1 (by decide) ?_
        exact ⟨by rfl, by unfold xm_88; first | (simp only [if_pos h1, if_neg h3, if_neg h6]; done) | rfl⟩
  · skip
    refine rs_aload_n ri_88_7 rfl rfl ?_
    refine rs_gf (v := .ref 5) ri_88_8 rfl (by decide) (ro_kf (kd_42 hL)) rfl (rf_42_0 hL) ?_
    refine rs_aload_n ri_88_11 rfl rfl ?_
    refine rs_gf (v := .ref 43) ri_88_12 rfl (by decide) (ro_kf (kd_42 hL)) rfl (rf_42_2 hL) ?_
    refine rs_aload_n ri_88_15 rfl rfl ?_
    refine rs_gf (v := .ref 46) ri_88_16 rfl (by decide) (ro_kf (kd_42 hL)) rfl (rf_42_3 hL) ?_
    refine rs_iconst (v := (0 : Int32)) ri_88_19 rfl (by decide) ?_
    refine rs_iald (v := (M.2.1 46 0)) ri_88_20 rfl (by decide) (kd_46 hL) (vp_in_iff.mpr ⟨by decide, by decide⟩) rfl ?_
    refine rs_virt (As := [.ref 43, .int (M.2.1 46 0)]) (r := []) ri_88_21 rfl (by decide) rm_37.2.2.2 rm_37.2.2.1 rfl rfl rfl (by decide) (ro_kf (kd_5 hL)) (Nat.le_of_ble_eq_true rfl) (by decide) (by decide) (xs_37 (X := X) hL (by unfold ro_ip; decide)) ?_
    rintro _ _ ⟨e1, e2⟩
    rw [e1, e2]
    show ro_w X _ 88 _ 24 [(0, .ref 42), (1, .int v1), (2, .int v2)] [.int (xf_37 M 43 (M.2.1 46 0))] M (0, 0)
    refine rs_goto (t := 28) ri_88_24 rfl ?_
    refine rs_istore_n (lv2 := [(3, .int (xf_37 M 43 (M.2.1 46 0))), (0, .ref 42), (1, .int v1), (2, .int v2)]) ri_88_28 rfl rm_88.1 (by decide) rfl ?_
    refine rs_aload_n ri_88_29 rfl rfl ?_
    refine rs_gf (v := .int (M.2.1 42 8)) ri_88_30 rfl (by decide) (ro_kf (kd_42 hL)) rfl rfl ?_
    refine rs_if_eq (t := 52) ri_88_33 rfl rfl (fun h8 => absurd h8 h1) (fun h8 => ?_)
    refine rs_iload_n ri_88_36 rfl rfl ?_
    refine rs_aload_n ri_88_37 rfl rfl ?_
    refine rs_gf (v := .int (M.2.1 42 6)) ri_88_38 rfl (by decide) (ro_kf (kd_42 hL)) rfl rfl ?_
    refine rs_icmp_le (t := 48) ri_88_41 rfl rfl (fun h9 => ?_) (fun h9 => ?_)
    · skip
      refine rs_iconst (v := (0 : Int32)) ri_88_48 rfl (by decide) ?_
      refine rs_goto (t := 65) ri_88_49 rfl ?_
      refine rs_istore (lv2 := [(4, .int (0 : Int32)), (3, .int (xf_37 M 43 (M.2.1 46 0))), (0, .ref 42), (1, .int v1), (2, .int v2)]) ri_88_65 rfl rm_88.1 (by decide) rfl ?_
      refine rs_aload_n ri_88_67 rfl rfl ?_
      refine rs_gf (v := .int (M.2.1 42 9)) ri_88_68 rfl (by decide) (ro_kf (kd_42 hL)) rfl rfl ?_
      refine rs_if_eq (t := 79) ri_88_71 rfl rfl (fun h10 => ?_) (fun h10 => ?_)
      · skip
        refine rs_aload_n ri_88_79 rfl rfl ?_
        refine rs_iconst (v := (1 : Int32)) ri_88_80 rfl (by decide) ?_
        refine rs_pf (M2 := (ro_sI M 42 9 (1 : Int32))) ri_88_81 rfl (by decide) (ro_kf (kd_42 hL)) (fun h => absurd h (by decide)) (fun f h => ⟨by decide, h⟩) ?_
        refine rs_aload_n ri_88_84 rfl rfl ?_
        refine rs_iload_n ri_88_85 rfl rfl ?_
        refine rs_pf (M2 := (ro_sI (ro_sI M 42 9 (1 : Int32)) 42 6 (xf_37 M 43 (M.2.1 46 0)))) ri_88_86 rfl (by decide) (ro_kf (kd_42 hL)) (fun h => absurd h (by decide)) (fun f h => h) ?_
        refine rs_aload_n ri_88_89 rfl rfl ?_
        refine rs_iload_n ri_88_90 rfl rfl ?_
        refine rs_pf (M2 := (ro_sI (ro_sI (ro_sI M 42 9 (1 : Int32)) 42 6 (xf_37 M 43 (M.2.1 46 0))) 42 7 v2)) ri_88_91 rfl (by decide) (ro_kf (kd_42 hL)) (fun h => absurd h (by decide)) (fun f h => h) ?_
        refine rs_ret ri_88_94 rm_88.2.1 (by decide) ?_
        exact ⟨by rfl, by unfold xm_88; first | (simp only [if_neg h1, if_pos h9, if_pos h10]; done) | rfl⟩
      · skip
        refine rs_iload ri_88_74 rfl rfl ?_
        refine rs_if_eq (t := 94) ri_88_76 rfl rfl (fun h11 => ?_) (fun h11 => absurd (by decide) h11)
        refine rs_ret ri_88_94 rm_88.2.1 (by decide) ?_
        exact ⟨by rfl, by unfold xm_88; first | (simp only [if_neg h1, if_pos h9, if_neg h10]; done) | rfl⟩
    · skip
      refine rs_iconst (v := (1 : Int32)) ri_88_44 rfl (by decide) ?_
      refine rs_goto (t := 65) ri_88_45 rfl ?_
      refine rs_istore (lv2 := [(4, .int (1 : Int32)), (3, .int (xf_37 M 43 (M.2.1 46 0))), (0, .ref 42), (1, .int v1), (2, .int v2)]) ri_88_65 rfl rm_88.1 (by decide) rfl ?_
      refine rs_aload_n ri_88_67 rfl rfl ?_
      refine rs_gf (v := .int (M.2.1 42 9)) ri_88_68 rfl (by decide) (ro_kf (kd_42 hL)) rfl rfl ?_
      refine rs_if_eq (t := 79) ri_88_71 rfl rfl (fun h12 => ?_) (fun h12 => ?_)
      · skip
        refine rs_aload_n ri_88_79 rfl rfl ?_
        refine rs_iconst (v := (1 : Int32)) ri_88_80 rfl (by decide) ?_
        refine rs_pf (M2 := (ro_sI M 42 9 (1 : Int32))) ri_88_81 rfl (by decide) (ro_kf (kd_42 hL)) (fun h => absurd h (by decide)) (fun f h => ⟨by decide, h⟩) ?_
        refine rs_aload_n ri_88_84 rfl rfl ?_
        refine rs_iload_n ri_88_85 rfl rfl ?_
        refine rs_pf (M2 := (ro_sI (ro_sI M 42 9 (1 : Int32)) 42 6 (xf_37 M 43 (M.2.1 46 0)))) ri_88_86 rfl (by decide) (ro_kf (kd_42 hL)) (fun h => absurd h (by decide)) (fun f h => h) ?_
        refine rs_aload_n ri_88_89 rfl rfl ?_
        refine rs_iload_n ri_88_90 rfl rfl ?_
        refine rs_pf (M2 := (ro_sI (ro_sI (ro_sI M 42 9 (1 : Int32)) 42 6 (xf_37 M 43 (M.2.1 46 0))) 42 7 v2)) ri_88_91 rfl (by decide) (ro_kf (kd_42 hL)) (fun h => absurd h (by decide)) (fun f h => h) ?_
        refine rs_ret ri_88_94 rm_88.2.1 (by decide) ?_
        exact ⟨by rfl, by unfold xm_88; first | (simp only [if_neg h1, if_neg h9, if_pos h12]; done) | rfl⟩
      · skip
        refine rs_iload ri_88_74 rfl rfl ?_
        refine rs_if_eq (t := 94) ri_88_76 rfl rfl (fun h13 => absurd h13 (by decide)) (fun h13 => ?_)
        refine rs_aload_n ri_88_79 rfl rfl ?_
        refine rs_iconst (v := (1 : Int32)) ri_88_80 rfl (by decide) ?_
        refine rs_pf (M2 := (ro_sI M 42 9 (1 : Int32))) ri_88_81 rfl (by decide) (ro_kf (kd_42 hL)) (fun h => absurd h (by decide)) (fun f h => ⟨by decide, h⟩) ?_
        refine rs_aload_n ri_88_84 rfl rfl ?_
        refine rs_iload_n ri_88_85 rfl rfl ?_
        refine rs_pf (M2 := (ro_sI (ro_sI M 42 9 (1 : Int32)) 42 6 (xf_37 M 43 (M.2.1 46 0)))) ri_88_86 rfl (by decide) (ro_kf (kd_42 hL)) (fun h => absurd h (by decide)) (fun f h => h) ?_
        refine rs_aload_n ri_88_89 rfl rfl ?_
        refine rs_iload_n ri_88_90 rfl rfl ?_
        refine rs_pf (M2 := (ro_sI (ro_sI (ro_sI M 42 9 (1 : Int32)) 42 6 (xf_37 M 43 (M.2.1 46 0))) 42 7 v2)) ri_88_91 rfl (by decide) (ro_kf (kd_42 hL)) (fun h => absurd h (by decide)) (fun f h => h) ?_
        refine rs_ret ri_88_94 rm_88.2.1 (by decide) ?_
        exact ⟨by rfl, by unfold xm_88; first | (simp only [if_neg h1, if_neg h9, if_neg h12]; done) | rfl⟩
theorem xl_88 {M : ro_Mm} {v1 : Int32} {v2 : Int32} (hL : ro_lay M) : ro_lay (xm_88 M v1 v2) := by
  unfold xm_88
  by_cases hz : (M.2.1 42 8) = (0 : Int32)
  · skip
    rw [if_pos hz]
    by_cases hz : (M.2.1 42 6) ≤ v1
    · skip
      rw [if_pos hz]
      by_cases hz : (M.2.1 42 9) = (0 : Int32)
      · skip
        rw [if_pos hz]
        exact hL
      · skip
        rw [if_neg hz]
        exact hL
    · skip
      rw [if_neg hz]
      by_cases hz : (M.2.1 42 9) = (0 : Int32)
      · skip
        exact hL
      · skip
        exact hL
  · skip
    rw [if_neg hz]
    by_cases hz : (xf_37 M 43 (M.2.1 46 0)) ≤ (M.2.1 42 6)
    · skip
      rw [if_pos hz]
      by_cases hz : (M.2.1 42 9) = (0 : Int32)
      · skip
        rw [if_pos hz]
        exact hL
      · skip
        rw [if_neg hz]
        exact hL
    · skip
      rw [if_neg hz]
      by_cases hz : (M.2.1 42 9) = (0 : Int32)
      · skip
        exact hL
      · skip
        exact hL
theorem xwI_88 {M : ro_Mm} {v1 : Int32} {v2 : Int32} {c j : Nat} (n0 : c ≠ 42) : (xm_88 M v1 v2).2.1 c j = M.2.1 c j := by
  unfold xm_88
  by_cases hz : (M.2.1 42 8) = (0 : Int32)
  · rw [if_pos hz]
    by_cases hz : (M.2.1 42 6) ≤ v1
    · rw [if_pos hz]
      by_cases hz : (M.2.1 42 9) = (0 : Int32)
      · rw [if_pos hz]
        first | done | exact ((((ro_sI_ne n0)).trans (ro_sI_ne n0)).trans (ro_sI_ne n0))
      · rw [if_neg hz]
        first | done | exact rfl
    · rw [if_neg hz]
      first | done | exact ((((ro_sI_ne n0)).trans (ro_sI_ne n0)).trans (ro_sI_ne n0))
  · rw [if_neg hz]
    by_cases hz : (xf_37 M 43 (M.2.1 46 0)) ≤ (M.2.1 42 6)
    · rw [if_pos hz]
      by_cases hz : (M.2.1 42 9) = (0 : Int32)
      · rw [if_pos hz]
        first | done | exact ((((ro_sI_ne n0)).trans (ro_sI_ne n0)).trans (ro_sI_ne n0))
      · rw [if_neg hz]
        first | done | exact rfl
    · rw [if_neg hz]
      first | done | exact ((((ro_sI_ne n0)).trans (ro_sI_ne n0)).trans (ro_sI_ne n0))
theorem xwJ_88 {M : ro_Mm} {v1 : Int32} {v2 : Int32} {c j : Nat} : (xm_88 M v1 v2).2.2.1 c j = M.2.2.1 c j := by
  unfold xm_88
  by_cases hz : (M.2.1 42 8) = (0 : Int32)
  · rw [if_pos hz]
    by_cases hz : (M.2.1 42 6) ≤ v1
    · rw [if_pos hz]
      by_cases hz : (M.2.1 42 9) = (0 : Int32)
      · rw [if_pos hz]
        first | done | exact rfl
      · rw [if_neg hz]
        first | done | exact rfl
    · rw [if_neg hz]
      first | done | exact rfl
  · rw [if_neg hz]
    by_cases hz : (xf_37 M 43 (M.2.1 46 0)) ≤ (M.2.1 42 6)
    · rw [if_pos hz]
      by_cases hz : (M.2.1 42 9) = (0 : Int32)
      · rw [if_pos hz]
        first | done | exact rfl
      · rw [if_neg hz]
        first | done | exact rfl
    · rw [if_neg hz]
      first | done | exact rfl
/-- RefusedOnce.offer(II)I -/
def xf_144 (M : ro_Mm) (v1 : Int32) (v2 : Int32) : Int32 := (if (xf_56 M v1) then (if (xf_13 M v2 (0 : Int32) (2 : Int32)) then (if v2 = (2 : Int32) then (if (xf_73 M 6 (v1 / (10 : Int32)) (ro_irem v1 (10 : Int32))) then (ro_irem v1 (10 : Int32)) else (-5 : Int32)) else (if (xf_75 M 6 (v1 / (10 : Int32)) (ro_irem v1 (10 : Int32))) then (if v2 = (1 : Int32) then (v1 / (10 : Int32)) else (ro_irem v1 (10 : Int32))) else (-5 : Int32))) else (-1 : Int32)) else (-1 : Int32))
def xm_144 (M : ro_Mm) (v1 : Int32) (v2 : Int32) : ro_Mm := (if (xf_56 M v1) then (if (xf_13 M v2 (0 : Int32) (2 : Int32)) then (if v2 = (2 : Int32) then (if (xf_73 M 6 (v1 / (10 : Int32)) (ro_irem v1 (10 : Int32))) then (xm_74 (xm_145 M (0 : Int32)) 6 (v1 / (10 : Int32)) (ro_irem v1 (10 : Int32))) else M) else (if (xf_75 M 6 (v1 / (10 : Int32)) (ro_irem v1 (10 : Int32))) then (if v2 = (1 : Int32) then (xm_145 (xm_77 (xm_145 M (0 : Int32)) 6 (v1 / (10 : Int32))) (1 : Int32)) else (if v2 = (0 : Int32) then (xm_78 (xm_145 M (0 : Int32)) 6 (v1 / (10 : Int32)) (ro_irem v1 (10 : Int32))) else (xm_74 (xm_145 M (0 : Int32)) 6 (v1 / (10 : Int32)) (ro_irem v1 (10 : Int32))))) else M)) else M) else M)
theorem xs_144 {X : ro_Sx} {M : ro_Mm} {v1 : Int32} {v2 : Int32} (hL : ro_lay M) : ro_cwp X 4 144 [.ref 4, .int v1, .int v2] M (fun v M2 => v = some (.int (xf_144 M v1 v2)) ∧ M2 = xm_144 M v1 v2) := by
  refine rs_begin (lv0 := [(0, .ref 4), (1, .int v1), (2, .int v2)]) (by decide) rfl (by rw [rm_144.1]; exact Nat.le_of_ble_eq_true rfl) rfl ?_
  refine rs_aload_n ri_144_0 rfl rfl ?_
  refine rs_iload_n ri_144_1 rfl rfl ?_
  refine rs_virt (As := [.int v1]) (r := []) ri_144_2 rfl (by decide) rm_56.2.2.2 rm_56.2.2.1 rfl rfl rfl (by decide) (ro_kf (kd_4 hL)) (Nat.le_of_ble_eq_true rfl) (by decide) (by decide) (xs_56 (X := X) hL) ?_
  rintro _ _ ⟨e1, e2⟩
  rw [e1, e2]
  show ro_w X _ 144 _ 5 [(0, .ref 4), (1, .int v1), (2, .int v2)] [.int (ro_b (xf_56 M v1))] M (0, 0)
  refine rs_ifeq_c (t := 17) ri_144_5 rfl rfl (fun h1 => ?_) (fun h1 => ?_)
  · skip
    refine rs_iconst (v := (-1 : Int32)) ri_144_17 rfl (by decide) ?_
    refine rs_iret ri_144_18 rm_144.2.1 (by decide) ?_
    exact ⟨by unfold xf_144; first | (simp only [if_neg h1]; done) | rfl, by unfold xm_144; first | (simp only [if_neg h1]; done) | rfl⟩
  · skip
    refine rs_iload_n ri_144_8 rfl rfl ?_
    refine rs_iconst (v := (0 : Int32)) ri_144_9 rfl (by decide) ?_
    refine rs_iconst (v := (2 : Int32)) ri_144_10 rfl (by decide) ?_
    refine rs_stat (As := [.int v2, .int (0 : Int32), .int (2 : Int32)]) (r := []) ri_144_11 rfl rm_13.2.2.2 rfl rfl rfl (Nat.le_of_ble_eq_true rfl) (by decide) (by decide) (xs_13 (X := X) hL) ?_
    rintro _ _ ⟨e1, e2⟩
    rw [e1, e2]
    show ro_w X _ 144 _ 14 [(0, .ref 4), (1, .int v1), (2, .int v2)] [.int (ro_b (xf_13 M v2 (0 : Int32) (2 : Int32)))] M (0, 0)
    refine rs_ifne_c (t := 19) ri_144_14 rfl rfl (fun h2 => ?_) (fun h2 => ?_)
    · skip
      refine rs_iload_n ri_144_19 rfl rfl ?_
      refine rs_bipush (v := (10 : Int32)) ri_144_20 rfl (by decide) ?_
      refine rs_idiv (r := (v1 / (10 : Int32))) ri_144_22 rfl (by decide) rfl ?_
      refine rs_istore_n (lv2 := [(3, .int (v1 / (10 : Int32))), (0, .ref 4), (1, .int v1), (2, .int v2)]) ri_144_23 rfl rm_144.1 (by decide) rfl ?_
      refine rs_iload_n ri_144_24 rfl rfl ?_
      refine rs_bipush (v := (10 : Int32)) ri_144_25 rfl (by decide) ?_
      refine rs_irem (r := (ro_irem v1 (10 : Int32))) ri_144_27 rfl (by decide) rfl ?_
      refine rs_istore (lv2 := [(4, .int (ro_irem v1 (10 : Int32))), (3, .int (v1 / (10 : Int32))), (0, .ref 4), (1, .int v1), (2, .int v2)]) ri_144_28 rfl rm_144.1 (by decide) rfl ?_
      refine rs_iload_n ri_144_30 rfl rfl ?_
      refine rs_iconst (v := (2 : Int32)) ri_144_31 rfl (by decide) ?_
      refine rs_icmp_ne (t := 51) ri_144_32 rfl rfl (fun h3 => ?_) (fun h3 => ?_)
      · skip
        refine rs_aload_n ri_144_51 rfl rfl ?_
        refine rs_gf (v := .ref 5) ri_144_52 rfl (by decide) (ro_kf (kd_4 hL)) rfl (rf_4_0 hL) ?_
        refine rs_gf (v := .ref 6) ri_144_55 rfl (by decide) (ro_kf (kd_5 hL)) rfl (rf_5_0 hL) ?_
        refine rs_iload_n ri_144_58 rfl rfl ?_
        refine rs_iload ri_144_59 rfl rfl ?_
        refine rs_virt (As := [.int (v1 / (10 : Int32)), .int (ro_irem v1 (10 : Int32))]) (r := []) ri_144_61 rfl (by decide) rm_75.2.2.2 rm_75.2.2.1 rfl rfl rfl (by decide) (ro_kf (kd_6 hL)) (Nat.le_of_ble_eq_true rfl) (by decide) (by decide) (xs_75 (X := X) hL (by unfold ro_ip; decide)) ?_
        rintro _ _ ⟨e1, e2⟩
        rw [e1, e2]
        show ro_w X _ 144 _ 64 [(4, .int (ro_irem v1 (10 : Int32))), (3, .int (v1 / (10 : Int32))), (0, .ref 4), (1, .int v1), (2, .int v2)] [.int (ro_b (xf_75 M 6 (v1 / (10 : Int32)) (ro_irem v1 (10 : Int32))))] M (0, 0)
        refine rs_istore (lv2 := [(5, .int (ro_b (xf_75 M 6 (v1 / (10 : Int32)) (ro_irem v1 (10 : Int32))))), (4, .int (ro_irem v1 (10 : Int32))), (3, .int (v1 / (10 : Int32))), (0, .ref 4), (1, .int v1), (2, .int v2)]) ri_144_64 rfl rm_144.1 (by decide) rfl ?_
        refine rs_iload ri_144_66 rfl rfl ?_
        refine rs_ifne_c (t := 74) ri_144_68 rfl rfl (fun h4 => ?_) (fun h4 => ?_)
        · skip
          refine rs_aload_n ri_144_74 rfl rfl ?_
          refine rs_gf (v := .ref 5) ri_144_75 rfl (by decide) (ro_kf (kd_4 hL)) rfl (rf_4_0 hL) ?_
          refine rs_iconst (v := (0 : Int32)) ri_144_78 rfl (by decide) ?_
          refine rs_virt (As := [.int (0 : Int32)]) (r := []) ri_144_79 rfl (by decide) rm_145.2.2.2 rm_145.2.2.1 rfl rfl rfl (by decide) (ro_kf (kd_5 hL)) (Nat.le_of_ble_eq_true rfl) (by decide) (by decide) (xs_145 (X := X) hL) ?_
          rintro _ _ ⟨e1, e2⟩
          rw [e1, e2]
          show ro_w X _ 144 _ 82 [(5, .int (ro_b (xf_75 M 6 (v1 / (10 : Int32)) (ro_irem v1 (10 : Int32))))), (4, .int (ro_irem v1 (10 : Int32))), (3, .int (v1 / (10 : Int32))), (0, .ref 4), (1, .int v1), (2, .int v2)] [] (xm_145 M (0 : Int32)) (0, 0)
          refine rs_iload_n ri_144_82 rfl rfl ?_
          refine rs_iconst (v := (1 : Int32)) ri_144_83 rfl (by decide) ?_
          refine rs_icmp_ne (t := 108) ri_144_84 rfl rfl (fun h5 => ?_) (fun h5 => ?_)
          · skip
            refine rs_iload_n ri_144_108 rfl rfl ?_
            refine rs_if_ne (t := 128) ri_144_109 rfl rfl (fun h6 => ?_) (fun h6 => ?_)
            · skip
              refine rs_aload_n ri_144_128 rfl rfl ?_
              refine rs_gf (v := .ref 5) ri_144_129 rfl (by decide) (ro_kf (kd_4 (xl_145 hL))) rfl (rf_4_0 (xl_145 hL)) ?_
              refine rs_gf (v := .ref 6) ri_144_132 rfl (by decide) (ro_kf (kd_5 (xl_145 hL))) rfl (rf_5_0 (xl_145 hL)) ?_
              refine rs_iload_n ri_144_135 rfl rfl ?_
              refine rs_iload ri_144_136 rfl rfl ?_
              refine rs_virt (As := [.int (v1 / (10 : Int32)), .int (ro_irem v1 (10 : Int32))]) (r := []) ri_144_138 rfl (by decide) rm_74.2.2.2 rm_74.2.2.1 rfl rfl rfl (by decide) (ro_kf (kd_6 (xl_145 hL))) (Nat.le_of_ble_eq_true rfl) (by decide) (by decide) (xs_74 (X := X) (xl_145 hL) (by unfold ro_ip; decide)) ?_
              rintro _ _ ⟨e1, e2⟩
              rw [e1, e2]
              show ro_w X _ 144 _ 141 [(5, .int (ro_b (xf_75 M 6 (v1 / (10 : Int32)) (ro_irem v1 (10 : Int32))))), (4, .int (ro_irem v1 (10 : Int32))), (3, .int (v1 / (10 : Int32))), (0, .ref 4), (1, .int v1), (2, .int v2)] [] (xm_74 (xm_145 M (0 : Int32)) 6 (v1 / (10 : Int32)) (ro_irem v1 (10 : Int32))) (0, 0)
              refine rs_iload ri_144_141 rfl rfl ?_
              refine rs_iret ri_144_143 rm_144.2.1 (by decide) ?_
              exact ⟨by unfold xf_144; first | (simp only [if_pos h1, if_pos h2, if_neg h3, if_pos h4, if_neg h5, if_neg h6]; done) | rfl, by unfold xm_144; first | (simp only [if_pos h1, if_pos h2, if_neg h3, if_pos h4, if_neg h5, if_neg h6]; done) | rfl⟩
            · skip
              refine rs_aload_n ri_144_112 rfl rfl ?_
              refine rs_gf (v := .ref 5) ri_144_113 rfl (by decide) (ro_kf (kd_4 (xl_145 hL))) rfl (rf_4_0 (xl_145 hL)) ?_
              refine rs_gf (v := .ref 6) ri_144_116 rfl (by decide) (ro_kf (kd_5 (xl_145 hL))) rfl (rf_5_0 (xl_145 hL)) ?_
              refine rs_iload_n ri_144_119 rfl rfl ?_
              refine rs_iload ri_144_120 rfl rfl ?_
              refine rs_virt (As := [.int (v1 / (10 : Int32)), .int (ro_irem v1 (10 : Int32))]) (r := []) ri_144_122 rfl (by decide) rm_78.2.2.2 rm_78.2.2.1 rfl rfl rfl (by decide) (ro_kf (kd_6 (xl_145 hL))) (Nat.le_of_ble_eq_true rfl) (by decide) (by decide) (xs_78 (X := X) (xl_145 hL) (by unfold ro_ip; decide)) ?_
              rintro _ _ ⟨e1, e2⟩
              rw [e1, e2]
              show ro_w X _ 144 _ 125 [(5, .int (ro_b (xf_75 M 6 (v1 / (10 : Int32)) (ro_irem v1 (10 : Int32))))), (4, .int (ro_irem v1 (10 : Int32))), (3, .int (v1 / (10 : Int32))), (0, .ref 4), (1, .int v1), (2, .int v2)] [] (xm_78 (xm_145 M (0 : Int32)) 6 (v1 / (10 : Int32)) (ro_irem v1 (10 : Int32))) (0, 0)
              refine rs_goto (t := 141) ri_144_125 rfl ?_
              refine rs_iload ri_144_141 rfl rfl ?_
              refine rs_iret ri_144_143 rm_144.2.1 (by decide) ?_
              exact ⟨by unfold xf_144; first | (simp only [if_pos h1, if_pos h2, if_neg h3, if_pos h4, if_neg h5, if_pos h6]; done) | rfl, by unfold xm_144; first | (simp only [if_pos h1, if_pos h2, if_neg h3, if_pos h4, if_neg h5, if_pos h6]; done) | rfl⟩
          · skip
            refine rs_aload_n ri_144_87 rfl rfl ?_
            refine rs_gf (v := .ref 5) ri_144_88 rfl (by decide) (ro_kf (kd_4 (xl_145 hL))) rfl (rf_4_0 (xl_145 hL)) ?_
            refine rs_gf (v := .ref 6) ri_144_91 rfl (by decide) (ro_kf (kd_5 (xl_145 hL))) rfl (rf_5_0 (xl_145 hL)) ?_
            refine rs_iload_n ri_144_94 rfl rfl ?_
            refine rs_virt (As := [.int (v1 / (10 : Int32))]) (r := []) ri_144_95 rfl (by decide) rm_77.2.2.2 rm_77.2.2.1 rfl rfl rfl (by decide) (ro_kf (kd_6 (xl_145 hL))) (Nat.le_of_ble_eq_true rfl) (by decide) (by decide) (xs_77 (X := X) (xl_145 hL) (by unfold ro_ip; decide)) ?_
            rintro _ _ ⟨e1, e2⟩
            rw [e1, e2]
            show ro_w X _ 144 _ 98 [(5, .int (ro_b (xf_75 M 6 (v1 / (10 : Int32)) (ro_irem v1 (10 : Int32))))), (4, .int (ro_irem v1 (10 : Int32))), (3, .int (v1 / (10 : Int32))), (0, .ref 4), (1, .int v1), (2, .int v2)] [] (xm_77 (xm_145 M (0 : Int32)) 6 (v1 / (10 : Int32))) (0, 0)
            refine rs_aload_n ri_144_98 rfl rfl ?_
            refine rs_gf (v := .ref 5) ri_144_99 rfl (by decide) (ro_kf (kd_4 (xl_77 (xl_145 hL) (by unfold ro_ip; decide)))) rfl (rf_4_0 (xl_77 (xl_145 hL) (by unfold ro_ip; decide))) ?_
            refine rs_iconst (v := (1 : Int32)) ri_144_102 rfl (by decide) ?_
            refine rs_virt (As := [.int (1 : Int32)]) (r := []) ri_144_103 rfl (by decide) rm_145.2.2.2 rm_145.2.2.1 rfl rfl rfl (by decide) (ro_kf (kd_5 (xl_77 (xl_145 hL) (by unfold ro_ip; decide)))) (Nat.le_of_ble_eq_true rfl) (by decide) (by decide) (xs_145 (X := X) (xl_77 (xl_145 hL) (by unfold ro_ip; decide))) ?_
            rintro _ _ ⟨e1, e2⟩
            rw [e1, e2]
            show ro_w X _ 144 _ 106 [(5, .int (ro_b (xf_75 M 6 (v1 / (10 : Int32)) (ro_irem v1 (10 : Int32))))), (4, .int (ro_irem v1 (10 : Int32))), (3, .int (v1 / (10 : Int32))), (0, .ref 4), (1, .int v1), (2, .int v2)] [] (xm_145 (xm_77 (xm_145 M (0 : Int32)) 6 (v1 / (10 : Int32))) (1 : Int32)) (0, 0)
            refine rs_iload_n ri_144_106 rfl rfl ?_
            refine rs_iret ri_144_107 rm_144.2.1 (by decide) ?_
            exact ⟨by unfold xf_144; first | (simp only [if_pos h1, if_pos h2, if_neg h3, if_pos h4, if_pos h5]; done) | rfl, by unfold xm_144; first | (simp only [if_pos h1, if_pos h2, if_neg h3, if_pos h4, if_pos h5]; done) | rfl⟩
        · skip
          refine rs_bipush (v := (-5 : Int32)) ri_144_71 rfl (by decide) ?_
          refine rs_iret ri_144_73 rm_144.2.1 (by decide) ?_
          exact ⟨by unfold xf_144; first | (simp only [if_pos h1, if_pos h2, if_neg h3, if_neg h4]; done) | rfl, by unfold xm_144; first | (simp only [if_pos h1, if_pos h2, if_neg h3, if_neg h4]; done) | rfl⟩
      · skip
        refine rs_aload_n ri_144_35 rfl rfl ?_
        refine rs_gf (v := .ref 5) ri_144_36 rfl (by decide) (ro_kf (kd_4 hL)) rfl (rf_4_0 hL) ?_
        refine rs_gf (v := .ref 6) ri_144_39 rfl (by decide) (ro_kf (kd_5 hL)) rfl (rf_5_0 hL) ?_
        refine rs_iload_n ri_144_42 rfl rfl ?_
        refine rs_iload ri_144_43 rfl rfl ?_
        refine rs_virt (As := [.int (v1 / (10 : Int32)), .int (ro_irem v1 (10 : Int32))]) (r := []) ri_144_45 rfl (by decide) rm_73.2.2.2 rm_73.2.2.1 rfl rfl rfl (by decide) (ro_kf (kd_6 hL)) (Nat.le_of_ble_eq_true rfl) (by decide) (by decide) (xs_73 (X := X) hL (by unfold ro_ip; decide)) ?_
        rintro _ _ ⟨e1, e2⟩
        rw [e1, e2]
        show ro_w X _ 144 _ 48 [(4, .int (ro_irem v1 (10 : Int32))), (3, .int (v1 / (10 : Int32))), (0, .ref 4), (1, .int v1), (2, .int v2)] [.int (ro_b (xf_73 M 6 (v1 / (10 : Int32)) (ro_irem v1 (10 : Int32))))] M (0, 0)
        refine rs_goto (t := 64) ri_144_48 rfl ?_
        refine rs_istore (lv2 := [(5, .int (ro_b (xf_73 M 6 (v1 / (10 : Int32)) (ro_irem v1 (10 : Int32))))), (4, .int (ro_irem v1 (10 : Int32))), (3, .int (v1 / (10 : Int32))), (0, .ref 4), (1, .int v1), (2, .int v2)]) ri_144_64 rfl rm_144.1 (by decide) rfl ?_
        refine rs_iload ri_144_66 rfl rfl ?_
        refine rs_ifne_c (t := 74) ri_144_68 rfl rfl (fun h7 => ?_) (fun h7 => ?_)
        · skip
          refine rs_aload_n ri_144_74 rfl rfl ?_
          refine rs_gf (v := .ref 5) ri_144_75 rfl (by decide) (ro_kf (kd_4 hL)) rfl (rf_4_0 hL) ?_
          refine rs_iconst (v := (0 : Int32)) ri_144_78 rfl (by decide) ?_
          refine rs_virt (As := [.int (0 : Int32)]) (r := []) ri_144_79 rfl (by decide) rm_145.2.2.2 rm_145.2.2.1 rfl rfl rfl (by decide) (ro_kf (kd_5 hL)) (Nat.le_of_ble_eq_true rfl) (by decide) (by decide) (xs_145 (X := X) hL) ?_
          rintro _ _ ⟨e1, e2⟩
          rw [e1, e2]
          show ro_w X _ 144 _ 82 [(5, .int (ro_b (xf_73 M 6 (v1 / (10 : Int32)) (ro_irem v1 (10 : Int32))))), (4, .int (ro_irem v1 (10 : Int32))), (3, .int (v1 / (10 : Int32))), (0, .ref 4), (1, .int v1), (2, .int v2)] [] (xm_145 M (0 : Int32)) (0, 0)
          refine rs_iload_n ri_144_82 rfl rfl ?_
          refine rs_iconst (v := (1 : Int32)) ri_144_83 rfl (by decide) ?_
          refine rs_icmp_ne (t := 108) ri_144_84 rfl rfl (fun h8 => ?_) (fun h8 => absurd h8 (by rw [h3]; decide))
          refine rs_iload_n ri_144_108 rfl rfl ?_
          refine rs_if_ne (t := 128) ri_144_109 rfl rfl (fun h9 => ?_) (fun h9 => absurd h9 (by rw [h3]; decide))
          refine rs_aload_n ri_144_128 rfl rfl ?_
          refine rs_gf (v := .ref 5) ri_144_129 rfl (by decide) (ro_kf (kd_4 (xl_145 hL))) rfl (rf_4_0 (xl_145 hL)) ?_
          refine rs_gf (v := .ref 6) ri_144_132 rfl (by decide) (ro_kf (kd_5 (xl_145 hL))) rfl (rf_5_0 (xl_145 hL)) ?_
          refine rs_iload_n ri_144_135 rfl rfl ?_
          refine rs_iload ri_144_136 rfl rfl ?_
          refine rs_virt (As := [.int (v1 / (10 : Int32)), .int (ro_irem v1 (10 : Int32))]) (r := []) ri_144_138 rfl (by decide) rm_74.2.2.2 rm_74.2.2.1 rfl rfl rfl (by decide) (ro_kf (kd_6 (xl_145 hL))) (Nat.le_of_ble_eq_true rfl) (by decide) (by decide) (xs_74 (X := X) (xl_145 hL) (by unfold ro_ip; decide)) ?_
          rintro _ _ ⟨e1, e2⟩
          rw [e1, e2]
          show ro_w X _ 144 _ 141 [(5, .int (ro_b (xf_73 M 6 (v1 / (10 : Int32)) (ro_irem v1 (10 : Int32))))), (4, .int (ro_irem v1 (10 : Int32))), (3, .int (v1 / (10 : Int32))), (0, .ref 4), (1, .int v1), (2, .int v2)] [] (xm_74 (xm_145 M (0 : Int32)) 6 (v1 / (10 : Int32)) (ro_irem v1 (10 : Int32))) (0, 0)
          refine rs_iload ri_144_141 rfl rfl ?_
          refine rs_iret ri_144_143 rm_144.2.1 (by decide) ?_
          exact ⟨by unfold xf_144; first | (simp only [if_pos h1, if_pos h2, if_pos h3, if_pos h7]; done) | rfl, by unfold xm_144; first | (simp only [if_pos h1, if_pos h2, if_pos h3, if_pos h7]; done) | rfl⟩
        · skip
          refine rs_bipush (v := (-5 : Int32)) ri_144_71 rfl (by decide) ?_
          refine rs_iret ri_144_73 rm_144.2.1 (by decide) ?_
          exact ⟨by unfold xf_144; first | (simp only [if_pos h1, if_pos h2, if_pos h3, if_neg h7]; done) | rfl, by unfold xm_144; first | (simp only [if_pos h1, if_pos h2, if_pos h3, if_neg h7]; done) | rfl⟩
    · skip
      refine rs_iconst (v := (-1 : Int32)) ri_144_17 rfl (by decide) ?_
      refine rs_iret ri_144_18 rm_144.2.1 (by decide) ?_
      exact ⟨by unfold xf_144; first | (simp only [if_pos h1, if_neg h2]; done) | rfl, by unfold xm_144; first | (simp only [if_pos h1, if_neg h2]; done) | rfl⟩
theorem xl_144 {M : ro_Mm} {v1 : Int32} {v2 : Int32} (hL : ro_lay M) : ro_lay (xm_144 M v1 v2) := by
  unfold xm_144
  by_cases hz : (xf_56 M v1)
  · skip
    rw [if_pos hz]
    by_cases hz : (xf_13 M v2 (0 : Int32) (2 : Int32))
    · skip
      rw [if_pos hz]
      by_cases hz : v2 = (2 : Int32)
      · skip
        rw [if_pos hz]
        by_cases hz : (xf_73 M 6 (v1 / (10 : Int32)) (ro_irem v1 (10 : Int32)))
        · skip
          rw [if_pos hz]
          exact (xl_74 (xl_145 hL) (by unfold ro_ip; decide))
        · skip
          rw [if_neg hz]
          exact hL
      · skip
        rw [if_neg hz]
        by_cases hz : (xf_75 M 6 (v1 / (10 : Int32)) (ro_irem v1 (10 : Int32)))
        · skip
          rw [if_pos hz]
          by_cases hz : v2 = (1 : Int32)
          · skip
            rw [if_pos hz]
            exact (xl_145 (xl_77 (xl_145 hL) (by unfold ro_ip; decide)))
          · skip
            rw [if_neg hz]
            by_cases hz : v2 = (0 : Int32)
            · skip
              rw [if_pos hz]
              exact (xl_78 (xl_145 hL) (by unfold ro_ip; decide))
            · skip
              rw [if_neg hz]
              exact (xl_74 (xl_145 hL) (by unfold ro_ip; decide))
        · skip
          rw [if_neg hz]
          exact hL
    · skip
      rw [if_neg hz]
      exact hL
  · skip
    rw [if_neg hz]
    exact hL
theorem xwI_144 {M : ro_Mm} {v1 : Int32} {v2 : Int32} {c j : Nat} (n0 : c ≠ 11) (n1 : c ≠ 8) (n2 : c ≠ 7) : (xm_144 M v1 v2).2.1 c j = M.2.1 c j := by
  unfold xm_144
  by_cases hz : (xf_56 M v1)
  · rw [if_pos hz]
    by_cases hz : (xf_13 M v2 (0 : Int32) (2 : Int32))
    · rw [if_pos hz]
      by_cases hz : v2 = (2 : Int32)
      · rw [if_pos hz]
        by_cases hz : (xf_73 M 6 (v1 / (10 : Int32)) (ro_irem v1 (10 : Int32)))
        · rw [if_pos hz]
          first | done | exact (((xwI_74 n1)).trans (xwI_145 n0))
        · rw [if_neg hz]
          first | done | exact rfl
      · rw [if_neg hz]
        by_cases hz : (xf_75 M 6 (v1 / (10 : Int32)) (ro_irem v1 (10 : Int32)))
        · rw [if_pos hz]
          by_cases hz : v2 = (1 : Int32)
          · rw [if_pos hz]
            first | done | exact ((((xwI_145 n0)).trans (xwI_77 n2 n1)).trans (xwI_145 n0))
          · rw [if_neg hz]
            by_cases hz : v2 = (0 : Int32)
            · rw [if_pos hz]
              first | done | exact (((xwI_78 n2)).trans (xwI_145 n0))
            · rw [if_neg hz]
              first | done | exact (((xwI_74 n1)).trans (xwI_145 n0))
        · rw [if_neg hz]
          first | done | exact rfl
    · rw [if_neg hz]
      first | done | exact rfl
  · rw [if_neg hz]
    first | done | exact rfl
theorem xwJ_144 {M : ro_Mm} {v1 : Int32} {v2 : Int32} {c j : Nat} : (xm_144 M v1 v2).2.2.1 c j = M.2.2.1 c j := by
  unfold xm_144
  by_cases hz : (xf_56 M v1)
  · rw [if_pos hz]
    by_cases hz : (xf_13 M v2 (0 : Int32) (2 : Int32))
    · rw [if_pos hz]
      by_cases hz : v2 = (2 : Int32)
      · rw [if_pos hz]
        by_cases hz : (xf_73 M 6 (v1 / (10 : Int32)) (ro_irem v1 (10 : Int32)))
        · rw [if_pos hz]
          first | done | exact (((xwJ_74)).trans (xwJ_145))
        · rw [if_neg hz]
          first | done | exact rfl
      · rw [if_neg hz]
        by_cases hz : (xf_75 M 6 (v1 / (10 : Int32)) (ro_irem v1 (10 : Int32)))
        · rw [if_pos hz]
          by_cases hz : v2 = (1 : Int32)
          · rw [if_pos hz]
            first | done | exact ((((xwJ_145)).trans (xwJ_77)).trans (xwJ_145))
          · rw [if_neg hz]
            by_cases hz : v2 = (0 : Int32)
            · rw [if_pos hz]
              first | done | exact (((xwJ_78)).trans (xwJ_145))
            · rw [if_neg hz]
              first | done | exact (((xwJ_74)).trans (xwJ_145))
        · rw [if_neg hz]
          first | done | exact rfl
    · rw [if_neg hz]
      first | done | exact rfl
  · rw [if_neg hz]
    first | done | exact rfl

