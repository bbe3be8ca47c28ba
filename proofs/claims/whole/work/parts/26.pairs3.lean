/-! pairs of calls, on: shelves, undo, redo (by program, wip/whole/gen26.py) -/
section PAIRS3
variable {X : ro_Sx}
theorem ro_lr_ne {c j : Nat} (h : ro_lr c j = true) : c ≠ 190 ∧ c ≠ 191 ∧ ¬ ro_is c := by
  refine ⟨?_, ?_, ?_⟩
  · intro e; rw [e] at h; exact Bool.noConfusion h
  · intro e; rw [e] at h; exact Bool.noConfusion h
  · intro e
    have e : c = 23 ∨ c = 25 ∨ c = 27 ∨ c = 29 ∨ c = 31 ∨ c = 33 := by unfold ro_is at e; omega
    rcases e with e | e | e | e | e | e <;> rw [e] at h <;> exact Bool.noConfusion h
theorem iv_s_one {I I' : Nat → Nat → Int32} {J J' : Nat → Nat → Int64} {i : Nat} (g : iv_s I J)
    (h : ∀ s, s < 6 → s ≠ i → (∀ j, I' (23 + 2 * s) j = I (23 + 2 * s) j) ∧ I' 190 s = I 190 s ∧ I' 191 s = I 191 s ∧ I' 59 2 = I 59 2 ∧ ∀ k, k < 60 → J' 192 (60 * s + k) = J 192 (60 * s + k) ∧ J' (24 + 2 * s) k = J (24 + 2 * s) k)
    (hn : iv_sh I' J' i) : iv_s I' J' := by
  intro s hs
  by_cases e : s = i
  · rw [e]; exact hn
  · have g := g s hs
    obtain ⟨h1, h2, h3, h4, h5⟩ := h s hs e
    unfold iv_sh at g ⊢
    rw [h1, h1, h1, h2, h3, h4]
    rcases g with g | g | g
    · exact Or.inl g
    · exact Or.inr (Or.inl g)
    · obtain ⟨g1, g2, g3, g4, g5, g6, g7⟩ := g
      refine Or.inr (Or.inr ⟨g1, g2, g3, g4, g5, g6, fun k hk => ?_⟩)
      have hk6 : k < 60 := by
        have a := Int32.le_iff_toInt_le.mp g6
        have c : (60 : Int32).toInt = 60 := by decide
        have d : (I (23 + 2 * s) 2).toNatClampNeg = (I (23 + 2 * s) 2).toInt.toNat := rfl
        omega
      rw [(h5 k hk6).1, (h5 k hk6).2]
      exact g7 k hk
theorem ro_up_o {α : Type} {f : Nat → Nat → α} {c j a b : Nat} {v : α} (h : a ≠ c) : ro_up2 f c j v a b = f a b := by unfold ro_up2; rw [if_neg (fun e => h e.1)]
theorem ro_up_p {α : Type} {f : Nat → Nat → α} {c j a b : Nat} {v : α} (h : b ≠ j) : ro_up2 f c j v a b = f a b := by unfold ro_up2; rw [if_neg (fun e => h e.2)]
theorem ro_up_s {α : Type} {f : Nat → Nat → α} {c j : Nat} {v : α} : ro_up2 f c j v c j = v := by unfold ro_up2; rw [if_pos ⟨rfl, rfl⟩]
theorem mm_33 {M : ro_Mm} (h : ro_Inv M) {v1 v2 : Int32} : (xm_175 M v1 v2 = M ∧ xf_175 M v1 v2 = xf_300 M v1 v2 ∧ xm_300 M v1 v2 = M ∧ xp_300 M v1 v2) ∨ (ro_bs v1 = true ∧ -1 ≤ v2 ∧ v2 < M.2.1 59 2 ∧ xf_175 M v1 v2 = 1 ∧ xm_175 M v1 v2 = ro_sI (ro_sI (ro_sI M (ro_sc v1) 1 (if 0 ≤ v2 then -1 else -2)) (ro_sc v1) 3 v2) (ro_sc v1) 2 0) := by
  obtain ⟨⟨he1, he2, he3⟩, he4⟩ := h.2.1.2.2.2.2.2.2.2
  by_cases h1 : ro_bs v1 = true
  · by_cases h2 : -1 ≤ v2 ∧ v2 < M.2.1 59 2
    · have w := (ro_w13 (M := M) (v := v2) (a := -1) (b := xf_163 M - 1)).mpr (by unfold xf_163; grind)
      refine Or.inr ⟨h1, h2.1, h2.2, ?_, ?_⟩
      · unfold xf_175
        rw [if_pos h1, if_pos w]
      · unfold xm_175 xm_176
        rw [if_pos h1, if_pos w]
        by_cases h3 : 0 ≤ v2
        · rw [if_pos h3, if_pos h3]
        · rw [if_neg h3, if_neg h3]
    · exact Or.inl ⟨by grind [xm_175, xf_13, xf_163], by grind [xf_175, xf_300, xf_13, xf_163, xf_284, xf_195, ro_w198], by grind [xm_300, xf_284, xf_195], by grind [xp_300, xf_284, xf_195]⟩
  · exact Or.inl ⟨by grind [xm_175], by grind [xf_175, xf_300, ro_w198], by grind [xm_300, ro_w198], by grind [xp_300, ro_w198]⟩
theorem mm_300 {M : ro_Mm} {v1 v2 : Int32} (h1 : ro_bs v1 = true) (h2 : -1 ≤ v2) (h3 : v2 < M.2.1 163 49) (h4 : 0 ≤ M.2.1 163 49) : xm_300 M v1 v2 = ro_sI M 190 v1.toNatClampNeg v2 ∧ xf_300 M v1 v2 = 1 ∧ xp_300 M v1 v2 := by
  obtain ⟨s1, s2, s3⟩ := ro_sx h1
  by_cases e : v2 = -1
  · exact ⟨by grind [xm_300, ro_w198], by grind [xf_300, ro_w198], by grind [xp_300, ro_w198]⟩
  · have w : xf_284 M v2 = true := by grind [xf_284, xf_195]
    exact ⟨by grind [xm_300, ro_w198], by grind [xf_300, ro_w198], by grind [xp_300, ro_w198]⟩
theorem mn_33 {M : ro_Mm} (h : ro_Inv M) {v1 v2 : Int32} (h1 : ro_bs v1 = true) (h2 : -1 ≤ v2) (h3 : v2 < M.2.1 59 2) : xm_300 (ro_sI (ro_sI (ro_sI M (ro_sc v1) 1 (if 0 ≤ v2 then -1 else -2)) (ro_sc v1) 3 v2) (ro_sc v1) 2 0) v1 v2 = ro_sI (ro_sI (ro_sI (ro_sI M (ro_sc v1) 1 (if 0 ≤ v2 then -1 else -2)) (ro_sc v1) 3 v2) (ro_sc v1) 2 0) 190 v1.toNatClampNeg v2 ∧ xf_300 (ro_sI (ro_sI (ro_sI M (ro_sc v1) 1 (if 0 ≤ v2 then -1 else -2)) (ro_sc v1) 3 v2) (ro_sc v1) 2 0) v1 v2 = 1 ∧ xp_300 (ro_sI (ro_sI (ro_sI M (ro_sc v1) 1 (if 0 ≤ v2 then -1 else -2)) (ro_sc v1) 3 v2) (ro_sc v1) 2 0) v1 v2 := by
  obtain ⟨⟨he1, he2, he3⟩, he4⟩ := h.2.1.2.2.2.2.2.2.2
  obtain ⟨s1, s2, s3⟩ := ro_sx h1
  have n : 163 ≠ ro_sc v1 := by omega
  have e : (ro_sI (ro_sI (ro_sI M (ro_sc v1) 1 (if 0 ≤ v2 then -1 else -2)) (ro_sc v1) 3 v2) (ro_sc v1) 2 0).2.1 163 49 = M.2.1 59 2 := by
    rw [ro_sI_u, ro_up_o n, ro_sI_u, ro_up_o n, ro_sI_u, ro_up_o n, he1]
  exact mm_300 h1 h2 (by rw [e]; exact h3) (by rw [e]; exact he2)
theorem pp_33 {M : ro_Mm} (h : ro_Inv M) {v1 v2 : Int32} : xp_300 (xm_175 M v1 v2) v1 v2 := by
  rcases mm_33 h (v1 := v1) (v2 := v2) with ⟨e1, e2, e3, e4⟩ | ⟨h0, h20, h6, e1, e2⟩
  · rw [e1]; exact e4
  · rw [e2]; exact (mn_33 h h0 h20 h6).2.2
theorem pe_33 {M : ro_Mm} (h : ro_Inv M) {v1 v2 : Int32} : xf_300 (xm_175 M v1 v2) v1 v2 = xf_175 M v1 v2 := by
  rcases mm_33 h (v1 := v1) (v2 := v2) with ⟨e1, e2, e3, e4⟩ | ⟨h0, h20, h6, e1, e2⟩
  · rw [e1, e2]
  · rw [e1, e2]; exact (mn_33 h h0 h20 h6).2.1
theorem pi_33 {M : ro_Mm} (h : ro_Inv M) {v1 v2 : Int32} : ro_Inv (xm_300 (xm_175 M v1 v2) v1 v2) := by
  rcases mm_33 h (v1 := v1) (v2 := v2) with ⟨e1, e2, e3, e4⟩ | ⟨h0, h20, h6, e1, e2⟩
  · rw [e1, e3]; exact h
  · obtain ⟨⟨he1, he2, he3⟩, he4⟩ := h.2.1.2.2.2.2.2.2.2
    obtain ⟨s1, s2, s3⟩ := ro_sx h0
    refine ⟨xl_300 (xl_175 h.1) (pp_33 h), ?_⟩
    rw [e2, (mn_33 h h0 h20 h6).1]
    refine ⟨iv_r_c (fun c j e => ?_) h.2.1, iv_s_one (i := v1.toNatClampNeg) h.2.2 ?_ ?_⟩
    · obtain ⟨n1, n2, n3⟩ := ro_lr_ne e
      have n4 : c ≠ ro_sc v1 := fun e => n3 (by rw [e]; exact ro_sc_is v1)
      rw [ro_sI_u, ro_up_o n1, ro_sI_u, ro_up_o n4, ro_sI_u, ro_up_o n4, ro_sI_u, ro_up_o n4]
    · intro s hs hne
      have n1 : 23 + 2 * s ≠ 190 := by omega
      have n2 : 23 + 2 * s ≠ ro_sc v1 := by omega
      have n3 : 190 ≠ ro_sc v1 := by omega
      have n4 : 191 ≠ ro_sc v1 := by omega
      have n5 : 59 ≠ ro_sc v1 := by omega
      refine ⟨fun j => ?_, ?_, ?_, ?_, fun k _ => ⟨rfl, rfl⟩⟩
      · rw [ro_sI_u, ro_up_o n1, ro_sI_u, ro_up_o n2, ro_sI_u, ro_up_o n2, ro_sI_u, ro_up_o n2]
      · rw [ro_sI_u, ro_up_p hne, ro_sI_u, ro_up_o n3, ro_sI_u, ro_up_o n3, ro_sI_u, ro_up_o n3]
      · rw [ro_sI_u, ro_up_o (by decide), ro_sI_u, ro_up_o n4, ro_sI_u, ro_up_o n4, ro_sI_u, ro_up_o n4]
      · rw [ro_sI_u, ro_up_o (by decide), ro_sI_u, ro_up_o n5, ro_sI_u, ro_up_o n5, ro_sI_u, ro_up_o n5]
    · have n1 : ro_sc v1 ≠ 190 := by omega
      have n5 : 59 ≠ ro_sc v1 := by omega
      unfold iv_sh
      rw [← s3]
      have r1 : (ro_sI (ro_sI (ro_sI (ro_sI M (ro_sc v1) 1 (if 0 ≤ v2 then -1 else -2)) (ro_sc v1) 3 v2) (ro_sc v1) 2 0) 190 v1.toNatClampNeg v2).2.1 (ro_sc v1) 1 = (if 0 ≤ v2 then -1 else -2) := by
        rw [ro_sI_u, ro_up_o n1, ro_sI_u, ro_up_p (by decide), ro_sI_u, ro_up_p (by decide), ro_sI_u, ro_up_s]
      have r2 : (ro_sI (ro_sI (ro_sI (ro_sI M (ro_sc v1) 1 (if 0 ≤ v2 then -1 else -2)) (ro_sc v1) 3 v2) (ro_sc v1) 2 0) 190 v1.toNatClampNeg v2).2.1 190 v1.toNatClampNeg = v2 := by
        rw [ro_sI_u, ro_up_s]
      have r3 : (ro_sI (ro_sI (ro_sI (ro_sI M (ro_sc v1) 1 (if 0 ≤ v2 then -1 else -2)) (ro_sc v1) 3 v2) (ro_sc v1) 2 0) 190 v1.toNatClampNeg v2).2.1 (ro_sc v1) 3 = v2 := by
        rw [ro_sI_u, ro_up_o n1, ro_sI_u, ro_up_p (by decide), ro_sI_u, ro_up_s]
      have r4 : (ro_sI (ro_sI (ro_sI (ro_sI M (ro_sc v1) 1 (if 0 ≤ v2 then -1 else -2)) (ro_sc v1) 3 v2) (ro_sc v1) 2 0) 190 v1.toNatClampNeg v2).2.1 59 2 = M.2.1 59 2 := by
        rw [ro_sI_u, ro_up_o (by decide), ro_sI_u, ro_up_o n5, ro_sI_u, ro_up_o n5, ro_sI_u, ro_up_o n5]
      rw [r1, r2, r3, r4]
      by_cases h3 : 0 ≤ v2
      · rw [if_pos h3]
        exact Or.inr (Or.inl ⟨rfl, rfl, h3, h6⟩)
      · rw [if_neg h3]
        exact Or.inl ⟨rfl, by grind⟩
theorem pr_33 (a1 : Int32) (a2 : Int32) : ro_eqI ro_Inv X 175 300 [.int a1, .int a2] :=
  pr_I (fc := fun M => xf_175 M a1 a2) (fm := fun M => xf_300 M a1 a2) (gc := fun M => xm_175 M a1 a2) (gm := fun M => xm_300 M a1 a2) (by decide) (by decide) (fun _ h => xs_175 h.1) (fun _ h => xl_175 h.1) (fun _ h => xs_300 (xl_175 h.1) (pp_33 h)) (fun _ h => pe_33 h) (fun _ h => pi_33 h)
end PAIRS3
