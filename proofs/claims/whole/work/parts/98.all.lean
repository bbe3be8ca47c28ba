/-! all pairs but one, over ro_Inv2 (by program, wip/whole/mk98.py) -/
section ALL
theorem ro_lev1 : ro_lev ro_M1 := by
  have h : (match ro_M1.2.2.2 62 8 with | .ref k => k == 153 | _ => false) = true ∧ (match ro_M1.2.2.2 62 9 with | .ref k => k == 158 | _ => false) = true := by decide +kernel
  refine Or.inl ⟨?_, ?_⟩
  · have h2 := h.1
    split at h2
    · rename_i k hk
      rw [hk, beq_iff_eq.mp h2]
    · cases h2
  · have h2 := h.2
    split at h2
    · rename_i k hk
      rw [hk, beq_iff_eq.mp h2]
    · cases h2
theorem ro_Inv12 : ro_Inv2 ro_M1 := ⟨ro_Inv1, ro_lev1⟩
theorem ro_pairs_of (h20 : ∀ (a1 a2 a3 : Int32) (X : ro_Sx), ro_eqI ro_Inv2 X 119 268 [.int a1, .int a2, .int a3]) : ro_Pairs ro_Inv2 :=
  ⟨fun a1 X => fr_eqI (by decide) (by decide) (pr_0 a1), fun a1 a2 a3 X => fr_eqI (by decide) (by decide) (pr_1 a1 a2 a3), fun a1 a2 a3 X => fr_eqI (by decide) (by decide) (pr_2 a1 a2 a3), fun a1 a2 X => fr_eqI (by decide) (by decide) (pr_3 a1 a2), fun a1 X => fr_eqI (by decide) (by decide) (pr_4 a1), fun X => fr_eqI (by decide) (by decide) pr_5, fun a1 X => fr_eqI (by decide) (by decide) (pr_6 a1), fun a1 a2 a3 a4 X => fr_eqI (by decide) (by decide) (pr_7 a1 a2 a3 a4), fun a1 a2 a3 X => fr_eqI (by decide) (by decide) (pr_8 a1 a2 a3), fun a1 a2 X => fr_eqI (by decide) (by decide) (pr_9 a1 a2), fun a1 X => fr_eqI (by decide) (by decide) (pr_10 a1), fun a1 a2 a3 a4 X => fr_eqJ (by decide) (by decide) (pr_11 a1 a2 a3 a4), fun a1 a2 a3 X => fr_eqJ (by decide) (by decide) (pr_12 a1 a2 a3), fun a1 a2 X => fr_eqJ (by decide) (by decide) (pr_13 a1 a2), fun a1 a2 X => fr_eqI (by decide) (by decide) (pr_14 a1 a2), fun a1 a2 a3 X => fr_eqJ (by decide) (by decide) (pr_15 a1 a2 a3), fun a1 a2 X => fr_eqI (by decide) (by decide) (pr_16 a1 a2), fun a1 a2 a3 X => fr_eqJ (by decide) (by decide) (pr_17 a1 a2 a3), fun a1 a2 X => fr_eqI (by decide) (by decide) (pr_18 a1 a2), fun a1 X => fr_eqI (by decide) (by decide) (pr_19 a1), h20, fun a1 a2 a3 X => fr_eqI (by decide) (by decide) (pr_21 a1 a2 a3), fun a1 a2 X => fr_eqI (by decide) (by decide) (pr_22 a1 a2), fun a1 X => fr_eqI (by decide) (by decide) (pr_23 a1), fun X => fr_eqI (by decide) (by decide) pr_24, fun a1 X => fr_eqI (by decide) (by decide) (pr_25 a1), fun X => fr_eqI (by decide) (by decide) pr_26, fun X => fr_eqI (by decide) (by decide) pr_27, fun X => fr_eqI (by decide) (by decide) pr_28, fun X => fr_eqI (by decide) (by decide) pr_29, fun a1 X => fr_eqI (by decide) (by decide) (pr_30 a1), fun a1 a2 a3 X => fr_eqI (by decide) (by decide) (pr_31 a1 a2 a3), fun a1 X => fr_eqI (by decide) (by decide) (pr_32 a1), fun a1 a2 X => fr_eqI (by decide) (by decide) (pr_33 a1 a2), fun a1 a2 a3 X => fr_eqI (by decide) (by decide) (pr_34 a1 a2 a3), fun a1 a2 a3 a4 X => fr_eqI (by decide) (by decide) (pr_35 a1 a2 (ro_put a3 a4)), fun a1 a2 X => fr_eqJ (by decide) (by decide) (pr_36 a1 a2), fun a1 a2 a3 a4 a5 X => fr_eqI (by decide) (by decide) (pr_37 a1 a2 a3 a4 a5), fun a1 a2 X => fr_eqI (by decide) (by decide) (pr_38 a1 a2), fun a1 X => fr_eqI (by decide) (by decide) (pr_39 a1)⟩
theorem ro_pure_if (h20 : ∀ (a1 a2 a3 : Int32) (X : ro_Sx), ro_eqI ro_Inv2 X 119 268 [.int a1, .int a2, .int a3]) : ro_Pure := ro_pure_of (fun _ h => h.1.1) ro_Inv12 (ro_pairs_of h20)
end ALL
