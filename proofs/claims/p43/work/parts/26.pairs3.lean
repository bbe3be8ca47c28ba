/-! pairs of calls, on: shelves, undo, redo (by program, wip/whole/gen26.py) -/
section PAIRS3
variable {X : ro_Sx}
theorem ro_lr_ne {c j : Nat} (h : ro_lr c j = true) : c ≠ 190 ∧ c ≠ 191 ∧ ¬ ro_is c := by
  refine ⟨?_, ?_, ?_⟩
  · intro e; rw [e] at h; exact Bool.noConfusion h
  · intro e; rw [e] at h; exact Bool.noConfusion h
  · intro e
    have e : c = 23 ∨ c = 25 ∨ c = 27 ∨ c = 29 ∨ c = 31 ∨ c = 33 := by unfold ro_is at e; omega
    rcases e with e | e | e | e | e | e <;> rw [e] at h <;> exact Bool.noConfusion h
theorem iv_s_one {I I' : Nat → Nat → Int32} {J J' : Nat → Nat → Int64} {i : Nat} (g : iv_s I J)
    (h : ∀ s, s < 6 → s ≠ i → (∀ j, I' (23 + 2 * s) j = I (23 + 2 * s) j) ∧ I' 190 s = I 190 s ∧ I' 191 s = I 191 s ∧ I' 59 2 = I 59 2 ∧ ∀ k, k < 60 → J' 192 (60 * s + k) = J 192 (60 * s + k) ∧ J' (24 + 2 * s) k = J (24 + 2 * s) k)
    (hn : iv_sh I' J' i) : iv_s I' J' := by
  intro s hs
  by_cases e : s = i
  · rw [e]; exact hn
  · have g := g s hs
    obtain ⟨h1, h2, h3, h4, h5⟩ := h s hs e
    unfold iv_sh at g ⊢
    rw [h1, h1, h1, h2, h3, h4]
    rcases g with g | g | g
    · exact Or.inl g
    · exact Or.inr (Or.inl g)
    · obtain ⟨g1, g2, g3, g4, g5, g6, g7⟩ := g
      refine Or.inr (Or.inr ⟨g1, g2, g3, g4, g5, g6, fun k hk => ?_⟩)
      have hk6 : k < 60 := by
        have a := Int32.le_iff_toInt_le.mp g6
        have c : (60 : Int32).toInt = 60 := by decide
        have d : (I (23 + 2 * s) 2).toNatClampNeg = (I (23 + 2 * s) 2).toInt.toNat := rfl
        omega
      rw [(h5 k hk6).1, (h5 k hk6).2]
      exact g7 k hk
theorem ro_up_o {α : Type} {f : Nat → Nat → α} {c j a b : Nat} {v : α} (h : a ≠ c) : ro_up2 f c j v a b = f a b := by unfold ro_up2; rw [if_neg (fun e => h e.1)]
theorem ro_up_p {α : Type} {f : Nat → Nat → α} {c j a b : Nat} {v : α} (h : b ≠ j) : ro_up2 f c j v a b = f a b := by unfold ro_up2; rw [if_neg (fun e => h e.2)]
theorem ro_up_s {α : Type} {f : Nat → Nat → α} {c j : Nat} {v : α} : ro_up2 f c j v c j = v := by unfold ro_up2; rw [if_pos ⟨rfl, rfl⟩]
theorem mm_33 {M : ro_Mm} (h : ro_Inv M) {v1 v2 : Int32} : (xm_175 M v1 v2 = M ∧ xf_175 M v1 v2 = xf_300 M v1 v2 ∧ xm_300 M v1 v2 = M ∧ xp_300 M v1 v2) ∨ (ro_bs v1 = true ∧ -1 ≤ v2 ∧ v2 < M.2.1 59 2 ∧ xf_175 M v1 v2 = 1 ∧ xm_175 M v1 v2 = ro_sI (ro_sI (ro_sI M (ro_sc v1) 1 (if 0 ≤ v2 then -1 else -2)) (ro_sc v1) 3 v2) (ro_sc v1) 2 0) := by
  obtain ⟨⟨he1, he2, he3⟩, he4⟩ := h.2.1.2.2.2.2.2.2.2
  by_cases h1 : ro_bs v1 = true
  · by_cases h2 : -1 ≤ v2 ∧ v2 < M.2.1 59 2
    · have w := (ro_w13 (M := M) (v := v2) (a := -1) (b := xf_163 M - 1)).mpr (by unfold xf_163; grind)
      refine Or.inr ⟨h1, h2.1, h2.2, ?_, ?_⟩
      · unfold xf_175
        rw [if_pos h1, if_pos w]
      · unfold xm_175 xm_176
        rw [if_pos h1, if_pos w]
        by_cases h3 : 0 ≤ v2
        · rw [if_pos h3, if_pos h3]
        · rw [if_neg h3, if_neg h3]
    · exact Or.inl ⟨by grind [xm_175, xf_13, xf_163], by grind [xf_175, xf_300, xf_13, xf_163, xf_284, xf_195, ro_w198], by grind [xm_300, xf_284, xf_195], by grind [xp_300, xf_284, xf_195]⟩
  · exact Or.inl ⟨by grind [xm_175], by grind [xf_175, xf_300, ro_w198], by grind [xm_300, ro_w198], by grind [xp_300, ro_w198]⟩
theorem mm_300 {M : ro_Mm} {v1 v2 : Int32} (h1 : ro_bs v1 = true) (h2 : -1 ≤ v2) (h3 : v2 < M.2.1 163 49) (h4 : 0 ≤ M.2.1 163 49) : xm_300 M v1 v2 = ro_sI M 190 v1.toNatClampNeg v2 ∧ xf_300 M v1 v2 = 1 ∧ xp_300 M v1 v2 := by
  obtain ⟨s1, s2, s3⟩ := ro_sx h1
  by_cases e : v2 = -1
  · exact ⟨by grind [xm_300, ro_w198], by grind [xf_300, ro_w198], by grind [xp_300, ro_w198]⟩
  · have w : xf_284 M v2 = true := by grind [xf_284, xf_195]
    exact ⟨by grind [xm_300, ro_w198], by grind [xf_300, ro_w198], by grind [xp_300, ro_w198]⟩
theorem mn_33 {M : ro_Mm} (h : ro_Inv M) {v1 v2 : Int32} (h1 : ro_bs v1 = true) (h2 : -1 ≤ v2) (h3 : v2 < M.2.1 59 2) : xm_300 (ro_sI (ro_sI (ro_sI M (ro_sc v1) 1 (if 0 ≤ v2 then -1 else -2)) (ro_sc v1) 3 v2) (ro_sc v1) 2 0) v1 v2 = ro_sI (ro_sI (ro_sI (ro_sI M (ro_sc v1) 1 (if 0 ≤ v2 then -1 else -2)) (ro_sc v1) 3 v2) (ro_sc v1) 2 0) 190 v1.toNatClampNeg v2 ∧ xf_300 (ro_sI (ro_sI (ro_sI M (ro_sc v1) 1 (if 0 ≤ v2 then -1 else -2)) (ro_sc v1) 3 v2) (ro_sc v1) 2 0) v1 v2 = 1 ∧ xp_300 (ro_sI (ro_sI (ro_sI M (ro_sc v1) 1 (if 0 ≤ v2 then -1 else -2)) (ro_sc v1) 3 v2) (ro_sc v1) 2 0) v1 v2 := by
  obtain ⟨⟨he1, he2, he3⟩, he4⟩ := h.2.1.2.2.2.2.2.2.2
  obtain ⟨s1, s2, s3⟩ := ro_sx h1
  have n : 163 ≠ ro_sc v1 := by omega
  have e : (ro_sI (ro_sI (ro_sI M (ro_sc v1) 1 (if 0 ≤ v2 then -1 else -2)) (ro_sc v1) 3 v2) (ro_sc v1) 2 0).2.1 163 49 = M.2.1 59 2 := by
    rw [ro_sI_u, ro_up_o n, ro_sI_u, ro_up_o n, ro_sI_u, ro_up_o n, he1]
  exact mm_300 h1 h2 (by rw [e]; exact h3) (by rw [e]; exact he2)
theorem pp_33 {M : ro_Mm} (h : ro_Inv M) {v1 v2 : Int32} : xp_300 (xm_175 M v1 v2) v1 v2 := by
  rcases mm_33 h (v1 := v1) (v2 := v2) with ⟨e1, e2, e3, e4⟩ | ⟨h0, h20, h6, e1, e2⟩
  · rw [e1]; exact e4
  · rw [e2]; exact (mn_33 h h0 h20 h6).2.2
theorem pe_33 {M : ro_Mm} (h : ro_Inv M) {v1 v2 : Int32} : xf_300 (xm_175 M v1 v2) v1 v2 = xf_175 M v1 v2 := by
  rcases mm_33 h (v1 := v1) (v2 := v2) with ⟨e1, e2, e3, e4⟩ | ⟨h0, h20, h6, e1, e2⟩
  · rw [e1, e2]
  · rw [e1, e2]; exact (mn_33 h h0 h20 h6).2.1
theorem pi_33 {M : ro_Mm} (h : ro_Inv M) {v1 v2 : Int32} : ro_Inv (xm_300 (xm_175 M v1 v2) v1 v2) := by
  rcases mm_33 h (v1 := v1) (v2 := v2) with ⟨e1, e2, e3, e4⟩ | ⟨h0, h20, h6, e1, e2⟩
  · rw [e1, e3]; exact h
  · obtain ⟨⟨he1, he2, he3⟩, he4⟩ := h.2.1.2.2.2.2.2.2.2
    obtain ⟨s1, s2, s3⟩ := ro_sx h0
    refine ⟨xl_300 (xl_175 h.1) (pp_33 h), ?_⟩
    rw [e2, (mn_33 h h0 h20 h6).1]
    refine ⟨iv_r_c (fun c j e => ?_) h.2.1, iv_s_one (i := v1.toNatClampNeg) h.2.2 ?_ ?_⟩
    · obtain ⟨n1, n2, n3⟩ := ro_lr_ne e
      have n4 : c ≠ ro_sc v1 := fun e => n3 (by rw [e]; exact ro_sc_is v1)
      rw [ro_sI_u, ro_up_o n1, ro_sI_u, ro_up_o n4, ro_sI_u, ro_up_o n4, ro_sI_u, ro_up_o n4]
    · intro s hs hne
      have n1 : 23 + 2 * s ≠ 190 := by omega
      have n2 : 23 + 2 * s ≠ ro_sc v1 := by omega
      have n3 : 190 ≠ ro_sc v1 := by omega
      have n4 : 191 ≠ ro_sc v1 := by omega
      have n5 : 59 ≠ ro_sc v1 := by omega
      refine ⟨fun j => ?_, ?_, ?_, ?_, fun k _ => ⟨rfl, rfl⟩⟩
      · rw [ro_sI_u, ro_up_o n1, ro_sI_u, ro_up_o n2, ro_sI_u, ro_up_o n2, ro_sI_u, ro_up_o n2]
      · rw [ro_sI_u, ro_up_p hne, ro_sI_u, ro_up_o n3, ro_sI_u, ro_up_o n3, ro_sI_u, ro_up_o n3]
      · rw [ro_sI_u, ro_up_o (by decide), ro_sI_u, ro_up_o n4, ro_sI_u, ro_up_o n4, ro_sI_u, ro_up_o n4]
      · rw [ro_sI_u, ro_up_o (by decide), ro_sI_u, ro_up_o n5, ro_sI_u, ro_up_o n5, ro_sI_u, ro_up_o n5]
    · have n1 : ro_sc v1 ≠ 190 := by omega
      have n5 : 59 ≠ ro_sc v1 := by omega
      unfold iv_sh
      rw [← s3]
      have r1 : (ro_sI (ro_sI (ro_sI (ro_sI M (ro_sc v1) 1 (if 0 ≤ v2 then -1 else -2)) (ro_sc v1) 3 v2) (ro_sc v1) 2 0) 190 v1.toNatClampNeg v2).2.1 (ro_sc v1) 1 = (if 0 ≤ v2 then -1 else -2) := by
        rw [ro_sI_u, ro_up_o n1, ro_sI_u, ro_up_p (by decide), ro_sI_u, ro_up_p (by decide), ro_sI_u, ro_up_s]
      have r2 : (ro_sI (ro_sI (ro_sI (ro_sI M (ro_sc v1) 1 (if 0 ≤ v2 then -1 else -2)) (ro_sc v1) 3 v2) (ro_sc v1) 2 0) 190 v1.toNatClampNeg v2).2.1 190 v1.toNatClampNeg = v2 := by
        rw [ro_sI_u, ro_up_s]
      have r3 : (ro_sI (ro_sI (ro_sI (ro_sI M (ro_sc v1) 1 (if 0 ≤ v2 then -1 else -2)) (ro_sc v1) 3 v2) (ro_sc v1) 2 0) 190 v1.toNatClampNeg v2).2.1 (ro_sc v1) 3 = v2 := by
        rw [ro_sI_u, ro_up_o n1, ro_sI_u, ro_up_p (by decide), ro_sI_u, ro_up_s]
      have r4 : (ro_sI (ro_sI (ro_sI (ro_sI M (ro_sc v1) 1 (if 0 ≤ v2 then -1 else -2)) (ro_sc v1) 3 v2) (ro_sc v1) 2 0) 190 v1.toNatClampNeg v2).2.1 59 2 = M.2.1 59 2 := by
        rw [ro_sI_u, ro_up_o (by decide), ro_sI_u, ro_up_o n5, ro_sI_u, ro_up_o n5, ro_sI_u, ro_up_o n5]
      rw [r1, r2, r3, r4]
      by_cases h3 : 0 ≤ v2
      · rw [if_pos h3]
        exact Or.inr (Or.inl ⟨rfl, rfl, h3, h6⟩)
      · rw [if_neg h3]
        exact Or.inl ⟨rfl, by grind⟩
theorem mm_302n {M : ro_Mm} {v1 v2 : Int32} {v3 : Int64} {r : Int32} (h : xf_303 M v1 v2 = r) (hr : ¬ 0 ≤ r) (hp : xp_303 M v1 v2) : xf_302 M v1 v2 v3 = r ∧ xm_302 M v1 v2 v3 = M ∧ xp_302 M v1 v2 v3 := by
  rw [← h] at hr
  refine ⟨?_, ?_, hp, fun z => absurd z hr, fun _ => trivial⟩
  · unfold xf_302
    rw [if_neg hr, h]
  · unfold xm_302
    rw [if_neg hr]
theorem mm_35 {M : ro_Mm} (h : ro_Inv M) {v1 v2 : Int32} {v3 : Int64} : (xm_179 M v1 v2 v3 = M ∧ xf_179 M v1 v2 v3 = xf_302 M v1 v2 v3 ∧ xm_302 M v1 v2 v3 = M ∧ xp_302 M v1 v2 v3) ∨ (ro_bs v1 = true ∧ 0 ≤ M.2.1 (ro_sc v1) 1 ∧ M.2.1 190 v1.toNatClampNeg = -2 - M.2.1 (ro_sc v1) 1 ∧ 0 ≤ v2 ∧ v2 < 60 ∧ xf_303 M v1 v2 = 0 ∧ xp_303 M v1 v2 ∧ xf_179 M v1 v2 v3 = 1 ∧ xm_179 M v1 v2 v3 = ro_sJ M (ro_sc v1 + 1) v2.toNatClampNeg (xf_182 M (ro_sc v1) v3)) := by
  by_cases h1 : ro_bs v1 = true
  · obtain ⟨s1, s2, s3⟩ := ro_sx h1
    have g := h.2.2 _ s2
    unfold iv_sh at g
    rw [← s3, show 24 + 2 * v1.toNatClampNeg = ro_sc v1 + 1 by omega] at g
    rcases g with g | g | g
    · have w : xf_303 M v1 v2 = -11 := by grind [xf_303, ro_w198]
      have w2 : xf_180 M (ro_sc v1) = false := by grind [xf_180]
      obtain ⟨n1, n2, n3⟩ := mm_302n (v3 := v3) w (by decide) (by grind [xp_303])
      exact Or.inl ⟨by grind [xm_179], by rw [n1]; grind [xf_179, xf_65, xf_21], n2, n3⟩
    · have w : xf_303 M v1 v2 = -12 := by grind [xf_303, ro_w198]
      have w2 : xf_180 M (ro_sc v1) = false := by grind [xf_180]
      obtain ⟨n1, n2, n3⟩ := mm_302n (v3 := v3) w (by decide) (by grind [xp_303])
      exact Or.inl ⟨by grind [xm_179], by rw [n1]; grind [xf_179, xf_65, xf_21], n2, n3⟩
    · obtain ⟨g1, g2, g3, g4, g5, g6, g7⟩ := g
      have w2 : xf_180 M (ro_sc v1) = true := by grind [xf_180]
      by_cases h2 : 0 ≤ v2 ∧ v2 < M.2.1 (ro_sc v1) 2
      · have w : xf_303 M v1 v2 = 0 := by grind [xf_303, ro_w198, xf_195]
        have w3 : xf_181 M (ro_sc v1) v2 v3 = true := by grind [xf_181]
        refine Or.inr ⟨h1, g1, g3, h2.1, by grind, w, by grind [xp_303, ro_w198], by grind [xf_179], ?_⟩
        unfold xm_179 xm_181
        rw [if_pos h1, if_pos w2, if_neg (by grind), if_neg (by grind), if_pos (by grind)]
      · have w : xf_303 M v1 v2 = -13 := by grind [xf_303, ro_w198, xf_195]
        have w3 : xf_181 M (ro_sc v1) v2 v3 = false := by grind [xf_181]
        obtain ⟨n1, n2, n3⟩ := mm_302n (v3 := v3) w (by decide) (by grind [xp_303])
        exact Or.inl ⟨by grind [xm_179, xm_181], by rw [n1]; grind [xf_179], n2, n3⟩
  · have w : xf_303 M v1 v2 = -1 := by grind [xf_303, ro_w198]
    obtain ⟨n1, n2, n3⟩ := mm_302n (v3 := v3) w (by decide) (by grind [xp_303, ro_w198])
    exact Or.inl ⟨by grind [xm_179], by rw [n1]; grind [xf_179], n2, n3⟩
def ro_low (k : Int32) (v : Int64) : Int64 := if k = 0 then v.toInt32.toInt8.toInt32.toInt64 else if k = 1 then v.toInt32.toInt16.toInt32.toInt64 else if k = 2 then v.toInt32.toInt64 else if k = 3 then v else if lg_cmp v 0 = 0 then 0 else 1
theorem mm_302 {M : ro_Mm} {v1 v2 : Int32} {v3 : Int64} (h : xf_303 M v1 v2 = 0) (hp : xp_303 M v1 v2) (h1 : ro_bs v1 = true) (h2 : 0 ≤ v2 ∧ v2 < 60) : xf_302 M v1 v2 v3 = 1 ∧ xp_302 M v1 v2 v3 ∧ xm_302 M v1 v2 v3 = ro_sJ M 192 (60 * v1.toNatClampNeg + v2.toNatClampNeg) (ro_low (-2 - M.2.1 190 v1.toNatClampNeg) v3) := by
  obtain ⟨k1, k2⟩ := ro_60 (ro_bs_t h1) h2
  obtain ⟨s1, s2, s3⟩ := ro_sx h1
  have z : (0 : Int32) ≤ xf_303 M v1 v2 := by rw [h]; decide
  refine ⟨?_, ?_, ?_⟩
  · unfold xf_302
    rw [if_pos z]
  · exact ⟨hp, fun _ => ⟨s1, fun _ => ⟨k2, trivial⟩, fun _ => ⟨fun _ => ⟨k2, trivial⟩, fun _ => ⟨fun _ => ⟨k2, trivial⟩, fun _ => ⟨fun _ => ⟨k2, trivial⟩, fun _ => ⟨fun _ => ⟨k2, trivial⟩, fun _ => ⟨k2, trivial⟩⟩⟩⟩⟩⟩, fun _ => trivial⟩
  · unfold xm_302 ro_low
    rw [if_pos z, k1]
    by_cases c0 : -2 - M.2.1 190 v1.toNatClampNeg = 0
    · rw [if_pos c0, if_pos c0]
    rw [if_neg c0, if_neg c0]
    by_cases c1 : -2 - M.2.1 190 v1.toNatClampNeg = 1
    · rw [if_pos c1, if_pos c1]
    rw [if_neg c1, if_neg c1]
    by_cases c2 : -2 - M.2.1 190 v1.toNatClampNeg = 2
    · rw [if_pos c2, if_pos c2]
    rw [if_neg c2, if_neg c2]
    by_cases c3 : -2 - M.2.1 190 v1.toNatClampNeg = 3
    · rw [if_pos c3, if_pos c3]
    rw [if_neg c3, if_neg c3]
    by_cases c4 : lg_cmp v3 0 = 0
    · rw [if_pos c4, if_pos c4]
    · rw [if_neg c4, if_neg c4]
theorem ml_35 {M : ro_Mm} {v1 : Int32} {v3 : Int64} (e : M.2.1 190 v1.toNatClampNeg = -2 - M.2.1 (ro_sc v1) 1) : ro_low (-2 - M.2.1 190 v1.toNatClampNeg) v3 = xf_182 M (ro_sc v1) v3 := by
  have : -2 - M.2.1 190 v1.toNatClampNeg = M.2.1 (ro_sc v1) 1 := by grind
  rw [this]
  rfl
theorem pp_35 {M : ro_Mm} (h : ro_Inv M) {v1 v2 : Int32} {v3 : Int64} : xp_302 (xm_179 M v1 v2 v3) v1 v2 v3 := by
  rcases mm_35 h (v1 := v1) (v2 := v2) (v3 := v3) with ⟨e1, e2, e3, e4⟩ | ⟨g1, g2, g3, g4, g5, g6, g7, g8, g9⟩
  · rw [e1]; exact e4
  · rw [g9]; exact (mm_302 (M := ro_sJ M (ro_sc v1 + 1) v2.toNatClampNeg (xf_182 M (ro_sc v1) v3)) (v3 := v3) g6 g7 g1 ⟨g4, g5⟩).2.1
theorem pe_35 {M : ro_Mm} (h : ro_Inv M) {v1 v2 : Int32} {v3 : Int64} : xf_302 (xm_179 M v1 v2 v3) v1 v2 v3 = xf_179 M v1 v2 v3 := by
  rcases mm_35 h (v1 := v1) (v2 := v2) (v3 := v3) with ⟨e1, e2, e3, e4⟩ | ⟨g1, g2, g3, g4, g5, g6, g7, g8, g9⟩
  · rw [e1, e2]
  · rw [g9, g8]; exact (mm_302 (M := ro_sJ M (ro_sc v1 + 1) v2.toNatClampNeg (xf_182 M (ro_sc v1) v3)) (v3 := v3) g6 g7 g1 ⟨g4, g5⟩).1
theorem pi_35 {M : ro_Mm} (h : ro_Inv M) {v1 v2 : Int32} {v3 : Int64} : ro_Inv (xm_302 (xm_179 M v1 v2 v3) v1 v2 v3) := by
  rcases mm_35 h (v1 := v1) (v2 := v2) (v3 := v3) with ⟨e1, e2, e3, e4⟩ | ⟨g1, g2, g3, g4, g5, g6, g7, g8, g9⟩
  · rw [e1, e3]; exact h
  · obtain ⟨s1, s2, s3⟩ := ro_sx g1
    have k2 := ro_clt (n := 60) g4 g5 (by decide)
    refine ⟨xl_302 (xl_179 h.1) (pp_35 h), ?_⟩
    rw [g9, (mm_302 (M := ro_sJ M (ro_sc v1 + 1) v2.toNatClampNeg (xf_182 M (ro_sc v1) v3)) (v3 := v3) g6 g7 g1 ⟨g4, g5⟩).2.2]
    have el : ro_low (-2 - (ro_sJ M (ro_sc v1 + 1) v2.toNatClampNeg (xf_182 M (ro_sc v1) v3)).2.1 190 v1.toNatClampNeg) v3 = xf_182 M (ro_sc v1) v3 := ml_35 g3
    rw [el]
    refine ⟨h.2.1, iv_s_one (i := v1.toNatClampNeg) h.2.2 ?_ ?_⟩
    · intro s hs hne
      refine ⟨fun j => rfl, rfl, rfl, rfl, fun k hk => ⟨?_, ?_⟩⟩
      · rw [ro_sJ_u, ro_up_p (by omega), ro_sJ_u, ro_up_o (by omega)]
      · rw [ro_sJ_u, ro_up_o (by omega), ro_sJ_u, ro_up_o (by omega)]
    · have g := h.2.2 _ s2
      unfold iv_sh at g ⊢
      rcases g with g | g | g
      · exact Or.inl g
      · exact Or.inr (Or.inl g)
      · obtain ⟨q1, q2, q3, q4, q5, q6, q7⟩ := g
        refine Or.inr (Or.inr ⟨q1, q2, q3, q4, q5, q6, fun k hk => ?_⟩)
        have q := q7 k hk
        rw [ro_sJ_u, ro_sJ_u]
        by_cases e : k = v2.toNatClampNeg
        · rw [e, ro_up_s, ro_up_o (by omega), show 24 + 2 * v1.toNatClampNeg = ro_sc v1 + 1 by omega, ro_up_s]
        · rw [ro_up_p (by omega), ro_up_o (by omega), ro_up_o (by omega), ro_up_p e]
          exact q
theorem x33_0 {M : ro_Mm} {n v : Int32} (h : 0 ≤ n ∧ n < 6) : xm_33 M n 0 v = ro_sI M 7 n.toNatClampNeg v := by
  have n0 : ¬ n < 0 := by grind
  have n6 : ¬ 6 ≤ n := by grind
  unfold xm_33 xm_16
  rw [if_pos rfl, if_neg n0, if_neg n6]
theorem x200_0 {M : ro_Mm} {n v : Int32} : xm_200 M 0 n v = ro_sI M 164 n.toNatClampNeg v := by
  unfold xm_200
  rw [if_pos rfl]
theorem x33_1 {M : ro_Mm} {n v : Int32} (h : 0 ≤ n ∧ n < 6) : xm_33 M n 1 v = ro_sI M 8 n.toNatClampNeg v := by
  have n0 : ¬ n < 0 := by grind
  have n6 : ¬ 6 ≤ n := by grind
  unfold xm_33 xm_17
  rw [if_neg (by decide), if_pos rfl, if_neg n0, if_neg n6]
theorem x200_1 {M : ro_Mm} {n v : Int32} : xm_200 M 1 n v = ro_sI M 165 n.toNatClampNeg v := by
  unfold xm_200
  rw [if_neg (by decide), if_pos rfl]
theorem x33_2 {M : ro_Mm} {n v : Int32} (h : 0 ≤ n ∧ n < 6) : xm_33 M n 2 v = ro_sI M 9 n.toNatClampNeg v := by
  have n0 : ¬ n < 0 := by grind
  have n6 : ¬ 6 ≤ n := by grind
  unfold xm_33
  rw [if_neg (by decide), if_neg (by decide), if_pos rfl, if_neg n0, if_neg n6]
theorem x200_2 {M : ro_Mm} {n v : Int32} : xm_200 M 2 n v = ro_sI M 166 n.toNatClampNeg v := by
  unfold xm_200
  rw [if_neg (by decide), if_neg (by decide), if_pos rfl]
theorem x33_3 {M : ro_Mm} {n v : Int32} (h : 0 ≤ n ∧ n < 6) : xm_33 M n 3 v = ro_sI M 10 n.toNatClampNeg v := by
  have n0 : ¬ n < 0 := by grind
  have n6 : ¬ 6 ≤ n := by grind
  unfold xm_33
  rw [if_neg (by decide), if_neg (by decide), if_neg (by decide), if_pos rfl, if_neg n0, if_neg n6]
theorem x200_3 {M : ro_Mm} {n v : Int32} : xm_200 M 3 n v = ro_sI M 167 n.toNatClampNeg v := by
  unfold xm_200
  rw [if_neg (by decide), if_neg (by decide), if_neg (by decide), if_pos rfl]
theorem x33_4 {M : ro_Mm} {n v : Int32} : xm_33 M n 4 v = ro_sI M 5 5 v := by
  unfold xm_33
  rw [if_neg (by decide), if_neg (by decide), if_neg (by decide), if_neg (by decide), if_pos rfl]
theorem x200_4 {M : ro_Mm} {n v : Int32} : xm_200 M 4 n v = ro_sI M 168 0 v := by
  unfold xm_200
  rw [if_neg (by decide), if_neg (by decide), if_neg (by decide), if_neg (by decide)]
  rfl
theorem x33_5 {M : ro_Mm} {n v : Int32} : xm_33 M n 5 v = ro_sI M 5 6 v := by
  unfold xm_33
  rw [if_neg (by decide), if_neg (by decide), if_neg (by decide), if_neg (by decide), if_neg (by decide), if_pos rfl]
theorem x200_5 {M : ro_Mm} {n v : Int32} : xm_200 M 5 n v = ro_sI M 168 1 v := by
  unfold xm_200
  rw [if_neg (by decide), if_neg (by decide), if_neg (by decide), if_neg (by decide)]
  rfl
theorem x33_6 {M : ro_Mm} {n v : Int32} : xm_33 M n 6 v = ro_sI M 5 7 v := by
  unfold xm_33
  rw [if_neg (by decide), if_neg (by decide), if_neg (by decide), if_neg (by decide), if_neg (by decide), if_neg (by decide), if_pos rfl]
theorem x200_6 {M : ro_Mm} {n v : Int32} : xm_200 M 6 n v = ro_sI M 168 2 v := by
  unfold xm_200
  rw [if_neg (by decide), if_neg (by decide), if_neg (by decide), if_neg (by decide)]
  rfl
theorem ro_seven {w : Int32} (h : 0 ≤ w ∧ w ≤ 6) : w = 0 ∨ w = 1 ∨ w = 2 ∨ w = 3 ∨ w = 4 ∨ w = 5 ∨ w = 6 := by grind
theorem xp_200_t {M : ro_Mm} {w n v : Int32} (hn : 0 ≤ n ∧ n < 6) (hw : 0 ≤ w ∧ w ≤ 6) : xp_200 M w n v := by
  have hv := ro_vin (n := 6) hn.1 hn.2 (by decide)
  refine ⟨fun _ => ⟨hv, trivial⟩, fun _ => ⟨fun _ => ⟨hv, trivial⟩, fun _ => ⟨fun _ => ⟨hv, trivial⟩, fun _ => ⟨fun _ => ⟨hv, trivial⟩, fun _ => ⟨?_, trivial⟩⟩⟩⟩⟩
  exact ro_vin (n := 3) (by grind) (show w - 4 < 3 by grind) (by decide)
/-- something told is told anew, in both; the counts of changes too -/
theorem iv_tell {M : ro_Mm} (h : ro_Inv M) {n w u d e : Int32} (hn : 0 ≤ n ∧ n < 6) (hw : 0 ≤ w ∧ w ≤ 6) (hu : 0 ≤ u ∧ u ≤ ro_mst w) (hd : 0 ≤ d ∧ d ≤ 40 ∧ 0 ≤ e ∧ d + e ≤ 40 ∧ e ≤ 40) :
    (iv_r (xm_200 (ro_sI (ro_sI (ro_sI (ro_sI (xm_33 M n w u) 54 4 d) 54 5 e) 163 7 d) 163 8 e) w n u).2.1 ∧ iv_s (xm_200 (ro_sI (ro_sI (ro_sI (ro_sI (xm_33 M n w u) 54 4 d) 54 5 e) 163 7 d) 163 8 e) w n u).2.1 M.2.2.1) ∧
    (iv_r (ro_sI (ro_sI (xm_200 (ro_sI (ro_sI (xm_33 M n w u) 54 4 d) 54 5 e) w n u) 163 7 d) 163 8 e).2.1 ∧ iv_s (ro_sI (ro_sI (xm_200 (ro_sI (ro_sI (xm_33 M n w u) 54 4 d) 54 5 e) w n u) 163 7 d) 163 8 e).2.1 M.2.2.1) := by
  obtain ⟨ha1, ha2, ha3, ha4, ha5, ha6, ha7, ha8, ha9, ha10, ha11, ha12⟩ := h.2.1.1
  have hb := h.2.1.2.1
  have hg := h.2.1.2.2.2.2.2.2.1
  have hgn : (d = d ∧ e = e ∧ 0 ≤ d ∧ d ≤ 40 ∧ 0 ≤ e ∧ d + e ≤ 40 ∧ e ≤ 40) := ⟨rfl, rfl, hd⟩
  unfold ro_mst at hu
  rcases ro_seven hw with q | q | q | q | q | q | q
  · rw [q] at hu ⊢
    rw [x33_0 hn, x200_0, x200_0]
    have hb2 : iv_b (ro_up2 (ro_up2 M.2.1 7 n.toNatClampNeg u) 164 n.toNatClampNeg u) := by
      intro i hi
      have g := hb i hi
      have hu1 := hu.1
      have hu2 : u ≤ 20 := hu.2
      refine ⟨?_, g.2.1, g.2.2.1, g.2.2.2⟩
      show ro_up2 M.2.1 164 n.toNatClampNeg u 164 i = ro_up2 M.2.1 7 n.toNatClampNeg u 7 i ∧ 0 ≤ ro_up2 M.2.1 7 n.toNatClampNeg u 7 i ∧ ro_up2 M.2.1 7 n.toNatClampNeg u 7 i ≤ 20
      by_cases k : i = n.toNatClampNeg
      · rw [k, ro_up_s, ro_up_s]
        exact ⟨rfl, hu1, hu2⟩
      · rw [ro_up_p k, ro_up_p k]
        exact g.1
    refine ⟨⟨⟨h.2.1.1, hb2, h.2.1.2.2.1, h.2.1.2.2.2.1, h.2.1.2.2.2.2.1, h.2.1.2.2.2.2.2.1, ⟨hgn, hg.2⟩, h.2.1.2.2.2.2.2.2.2⟩, ?_⟩, ⟨⟨h.2.1.1, hb2, h.2.1.2.2.1, h.2.1.2.2.2.1, h.2.1.2.2.2.2.1, h.2.1.2.2.2.2.2.1, ⟨hgn, hg.2⟩, h.2.1.2.2.2.2.2.2.2⟩, ?_⟩⟩
    · intro s hs
      have g := h.2.2 s hs
      rcases (show s = 0 ∨ s = 1 ∨ s = 2 ∨ s = 3 ∨ s = 4 ∨ s = 5 by omega) with e | e | e | e | e | e <;> rw [e] at g ⊢ <;> exact g
    · intro s hs
      have g := h.2.2 s hs
      rcases (show s = 0 ∨ s = 1 ∨ s = 2 ∨ s = 3 ∨ s = 4 ∨ s = 5 by omega) with e | e | e | e | e | e <;> rw [e] at g ⊢ <;> exact g
  · rw [q] at hu ⊢
    rw [x33_1 hn, x200_1, x200_1]
    have hb2 : iv_b (ro_up2 (ro_up2 M.2.1 8 n.toNatClampNeg u) 165 n.toNatClampNeg u) := by
      intro i hi
      have g := hb i hi
      have hu1 := hu.1
      have hu2 : u ≤ 20 := hu.2
      refine ⟨g.1, ?_, g.2.2.1, g.2.2.2⟩
      show ro_up2 M.2.1 165 n.toNatClampNeg u 165 i = ro_up2 M.2.1 8 n.toNatClampNeg u 8 i ∧ 0 ≤ ro_up2 M.2.1 8 n.toNatClampNeg u 8 i ∧ ro_up2 M.2.1 8 n.toNatClampNeg u 8 i ≤ 20
      by_cases k : i = n.toNatClampNeg
      · rw [k, ro_up_s, ro_up_s]
        exact ⟨rfl, hu1, hu2⟩
      · rw [ro_up_p k, ro_up_p k]
        exact g.2.1
    refine ⟨⟨⟨h.2.1.1, hb2, h.2.1.2.2.1, h.2.1.2.2.2.1, h.2.1.2.2.2.2.1, h.2.1.2.2.2.2.2.1, ⟨hgn, hg.2⟩, h.2.1.2.2.2.2.2.2.2⟩, ?_⟩, ⟨⟨h.2.1.1, hb2, h.2.1.2.2.1, h.2.1.2.2.2.1, h.2.1.2.2.2.2.1, h.2.1.2.2.2.2.2.1, ⟨hgn, hg.2⟩, h.2.1.2.2.2.2.2.2.2⟩, ?_⟩⟩
    · intro s hs
      have g := h.2.2 s hs
      rcases (show s = 0 ∨ s = 1 ∨ s = 2 ∨ s = 3 ∨ s = 4 ∨ s = 5 by omega) with e | e | e | e | e | e <;> rw [e] at g ⊢ <;> exact g
    · intro s hs
      have g := h.2.2 s hs
      rcases (show s = 0 ∨ s = 1 ∨ s = 2 ∨ s = 3 ∨ s = 4 ∨ s = 5 by omega) with e | e | e | e | e | e <;> rw [e] at g ⊢ <;> exact g
  · rw [q] at hu ⊢
    rw [x33_2 hn, x200_2, x200_2]
    have hb2 : iv_b (ro_up2 (ro_up2 M.2.1 9 n.toNatClampNeg u) 166 n.toNatClampNeg u) := by
      intro i hi
      have g := hb i hi
      have hu1 := hu.1
      have hu2 : u ≤ 12 := hu.2
      refine ⟨g.1, g.2.1, ?_, g.2.2.2⟩
      show ro_up2 M.2.1 166 n.toNatClampNeg u 166 i = ro_up2 M.2.1 9 n.toNatClampNeg u 9 i ∧ 0 ≤ ro_up2 M.2.1 9 n.toNatClampNeg u 9 i ∧ ro_up2 M.2.1 9 n.toNatClampNeg u 9 i ≤ 12
      by_cases k : i = n.toNatClampNeg
      · rw [k, ro_up_s, ro_up_s]
        exact ⟨rfl, hu1, hu2⟩
      · rw [ro_up_p k, ro_up_p k]
        exact g.2.2.1
    refine ⟨⟨⟨h.2.1.1, hb2, h.2.1.2.2.1, h.2.1.2.2.2.1, h.2.1.2.2.2.2.1, h.2.1.2.2.2.2.2.1, ⟨hgn, hg.2⟩, h.2.1.2.2.2.2.2.2.2⟩, ?_⟩, ⟨⟨h.2.1.1, hb2, h.2.1.2.2.1, h.2.1.2.2.2.1, h.2.1.2.2.2.2.1, h.2.1.2.2.2.2.2.1, ⟨hgn, hg.2⟩, h.2.1.2.2.2.2.2.2.2⟩, ?_⟩⟩
    · intro s hs
      have g := h.2.2 s hs
      rcases (show s = 0 ∨ s = 1 ∨ s = 2 ∨ s = 3 ∨ s = 4 ∨ s = 5 by omega) with e | e | e | e | e | e <;> rw [e] at g ⊢ <;> exact g
    · intro s hs
      have g := h.2.2 s hs
      rcases (show s = 0 ∨ s = 1 ∨ s = 2 ∨ s = 3 ∨ s = 4 ∨ s = 5 by omega) with e | e | e | e | e | e <;> rw [e] at g ⊢ <;> exact g
  · rw [q] at hu ⊢
    rw [x33_3 hn, x200_3, x200_3]
    have hb2 : iv_b (ro_up2 (ro_up2 M.2.1 10 n.toNatClampNeg u) 167 n.toNatClampNeg u) := by
      intro i hi
      have g := hb i hi
      have hu1 := hu.1
      have hu2 : u ≤ 20 := hu.2
      refine ⟨g.1, g.2.1, g.2.2.1, ?_⟩
      show ro_up2 M.2.1 167 n.toNatClampNeg u 167 i = ro_up2 M.2.1 10 n.toNatClampNeg u 10 i ∧ 0 ≤ ro_up2 M.2.1 10 n.toNatClampNeg u 10 i ∧ ro_up2 M.2.1 10 n.toNatClampNeg u 10 i ≤ 20
      by_cases k : i = n.toNatClampNeg
      · rw [k, ro_up_s, ro_up_s]
        exact ⟨rfl, hu1, hu2⟩
      · rw [ro_up_p k, ro_up_p k]
        exact g.2.2.2
    refine ⟨⟨⟨h.2.1.1, hb2, h.2.1.2.2.1, h.2.1.2.2.2.1, h.2.1.2.2.2.2.1, h.2.1.2.2.2.2.2.1, ⟨hgn, hg.2⟩, h.2.1.2.2.2.2.2.2.2⟩, ?_⟩, ⟨⟨h.2.1.1, hb2, h.2.1.2.2.1, h.2.1.2.2.2.1, h.2.1.2.2.2.2.1, h.2.1.2.2.2.2.2.1, ⟨hgn, hg.2⟩, h.2.1.2.2.2.2.2.2.2⟩, ?_⟩⟩
    · intro s hs
      have g := h.2.2 s hs
      rcases (show s = 0 ∨ s = 1 ∨ s = 2 ∨ s = 3 ∨ s = 4 ∨ s = 5 by omega) with e | e | e | e | e | e <;> rw [e] at g ⊢ <;> exact g
    · intro s hs
      have g := h.2.2 s hs
      rcases (show s = 0 ∨ s = 1 ∨ s = 2 ∨ s = 3 ∨ s = 4 ∨ s = 5 by omega) with e | e | e | e | e | e <;> rw [e] at g ⊢ <;> exact g
  · rw [q] at hu ⊢
    rw [x33_4, x200_4, x200_4]
    have hu2 : u ≤ 4 := hu.2
    refine ⟨⟨⟨⟨ha1, ha2, ha3, rfl, hu.1, hu2, ha7, ha8, ha9, ha10, ha11, ha12⟩, hb, h.2.1.2.2.1, h.2.1.2.2.2.1, h.2.1.2.2.2.2.1, h.2.1.2.2.2.2.2.1, ⟨hgn, hg.2⟩, h.2.1.2.2.2.2.2.2.2⟩, ?_⟩, ⟨⟨⟨ha1, ha2, ha3, rfl, hu.1, hu2, ha7, ha8, ha9, ha10, ha11, ha12⟩, hb, h.2.1.2.2.1, h.2.1.2.2.2.1, h.2.1.2.2.2.2.1, h.2.1.2.2.2.2.2.1, ⟨hgn, hg.2⟩, h.2.1.2.2.2.2.2.2.2⟩, ?_⟩⟩
    · intro s hs
      have g := h.2.2 s hs
      rcases (show s = 0 ∨ s = 1 ∨ s = 2 ∨ s = 3 ∨ s = 4 ∨ s = 5 by omega) with e | e | e | e | e | e <;> rw [e] at g ⊢ <;> exact g
    · intro s hs
      have g := h.2.2 s hs
      rcases (show s = 0 ∨ s = 1 ∨ s = 2 ∨ s = 3 ∨ s = 4 ∨ s = 5 by omega) with e | e | e | e | e | e <;> rw [e] at g ⊢ <;> exact g
  · rw [q] at hu ⊢
    rw [x33_5, x200_5, x200_5]
    have hu2 : u ≤ 11 := hu.2
    refine ⟨⟨⟨⟨ha1, ha2, ha3, ha4, ha5, ha6, rfl, hu.1, hu2, ha10, ha11, ha12⟩, hb, h.2.1.2.2.1, h.2.1.2.2.2.1, h.2.1.2.2.2.2.1, h.2.1.2.2.2.2.2.1, ⟨hgn, hg.2⟩, h.2.1.2.2.2.2.2.2.2⟩, ?_⟩, ⟨⟨⟨ha1, ha2, ha3, ha4, ha5, ha6, rfl, hu.1, hu2, ha10, ha11, ha12⟩, hb, h.2.1.2.2.1, h.2.1.2.2.2.1, h.2.1.2.2.2.2.1, h.2.1.2.2.2.2.2.1, ⟨hgn, hg.2⟩, h.2.1.2.2.2.2.2.2.2⟩, ?_⟩⟩
    · intro s hs
      have g := h.2.2 s hs
      rcases (show s = 0 ∨ s = 1 ∨ s = 2 ∨ s = 3 ∨ s = 4 ∨ s = 5 by omega) with e | e | e | e | e | e <;> rw [e] at g ⊢ <;> exact g
    · intro s hs
      have g := h.2.2 s hs
      rcases (show s = 0 ∨ s = 1 ∨ s = 2 ∨ s = 3 ∨ s = 4 ∨ s = 5 by omega) with e | e | e | e | e | e <;> rw [e] at g ⊢ <;> exact g
  · rw [q] at hu ⊢
    rw [x33_6, x200_6, x200_6]
    have hu2 : u ≤ 12 := hu.2
    refine ⟨⟨⟨⟨ha1, ha2, ha3, ha4, ha5, ha6, ha7, ha8, ha9, rfl, hu.1, hu2⟩, hb, h.2.1.2.2.1, h.2.1.2.2.2.1, h.2.1.2.2.2.2.1, h.2.1.2.2.2.2.2.1, ⟨hgn, hg.2⟩, h.2.1.2.2.2.2.2.2.2⟩, ?_⟩, ⟨⟨⟨ha1, ha2, ha3, ha4, ha5, ha6, ha7, ha8, ha9, rfl, hu.1, hu2⟩, hb, h.2.1.2.2.1, h.2.1.2.2.2.1, h.2.1.2.2.2.2.1, h.2.1.2.2.2.2.2.1, ⟨hgn, hg.2⟩, h.2.1.2.2.2.2.2.2.2⟩, ?_⟩⟩
    · intro s hs
      have g := h.2.2 s hs
      rcases (show s = 0 ∨ s = 1 ∨ s = 2 ∨ s = 3 ∨ s = 4 ∨ s = 5 by omega) with e | e | e | e | e | e <;> rw [e] at g ⊢ <;> exact g
    · intro s hs
      have g := h.2.2 s hs
      rcases (show s = 0 ∨ s = 1 ∨ s = 2 ∨ s = 3 ∨ s = 4 ∨ s = 5 by omega) with e | e | e | e | e | e <;> rw [e] at g ⊢ <;> exact g
theorem rd_33 {M : ro_Mm} {n w u d e : Int32} {c j : Nat} (n0 : c ≠ 7) (n1 : c ≠ 8) (n2 : c ≠ 9) (n3 : c ≠ 10) (n4 : c ≠ 5) (n5 : c ≠ 54) : (ro_sI (ro_sI (xm_33 M n w u) 54 4 d) 54 5 e).2.1 c j = M.2.1 c j := by
  rw [ro_sI_u, ro_up_o n5, ro_sI_u, ro_up_o n5]
  exact xwI_33 n0 n1 n2 n3 n4
theorem mm_199 {M : ro_Mm} {D U w n u : Int32} (h7 : M.2.1 163 7 = D) (h8 : M.2.1 163 8 = U) (h0 : 1 ≤ D ∧ D ≤ 40) (e1 : M.2.1 169 (D - 1).toNatClampNeg = w) (e2 : M.2.1 170 (D - 1).toNatClampNeg = n) (e3 : M.2.1 171 (D - 1).toNatClampNeg = u) (hn : 0 ≤ n ∧ n < 6) (hw : 0 ≤ w ∧ w ≤ 6) : xm_199 M = xm_200 (ro_sI (ro_sI M 163 7 (D - 1)) 163 8 (U + 1)) w n u ∧ xf_199 M = D - 1 ∧ xp_199 M := by
  have z : ¬ M.2.1 163 7 = 0 := by rw [h7]; grind
  have hv := ro_vin (v := D - 1) (n := 40) (by grind) (show D - 1 < 40 by grind) (by decide)
  refine ⟨?_, ?_, fun q => absurd q z, fun _ => ?_⟩
  · unfold xm_199
    rw [if_neg z, h7, h8, e1, e2, e3]
  · unfold xf_199
    rw [if_neg z, h7]
  · rw [h7, h8, e1, e2, e3]
    exact ⟨hv, hv, hv, xp_200_t hn hw, trivial⟩
theorem mm_28 {M : ro_Mm} (h : ro_Inv M) : (xm_154 M = M ∧ xf_154 M = xf_199 M ∧ xm_199 M = M ∧ xp_199 M) ∨ (1 ≤ M.2.1 54 4 ∧ M.2.1 54 4 ≤ 40 ∧ xf_154 M = M.2.1 54 4 - 1 ∧ xm_154 M = ro_sI (ro_sI (xm_33 M (M.2.1 55 (M.2.1 54 4 - 1).toNatClampNeg) (M.2.1 56 (M.2.1 54 4 - 1).toNatClampNeg) (M.2.1 57 (M.2.1 54 4 - 1).toNatClampNeg)) 54 4 (M.2.1 54 4 - 1)) 54 5 (M.2.1 54 5 + 1)) := by
  obtain ⟨⟨hg1, hg2, hg3, hg4, hg5, hg6, hg7⟩, hg⟩ := h.2.1.2.2.2.2.2.2.1
  by_cases h1 : M.2.1 54 4 = 0
  · have w1 : xf_155 M = false := by grind [xf_155]
    exact Or.inl ⟨by grind [xm_154, xm_155], by grind [xf_154, xf_199], by grind [xm_199], ⟨fun _ => trivial, fun q => absurd (hg1.trans h1) q⟩⟩
  · have w1 : xf_155 M = true := by grind [xf_155]
    have w2 : xm_155 M = ro_sI (ro_sI (xm_33 M (M.2.1 55 (M.2.1 54 4 - 1).toNatClampNeg) (M.2.1 56 (M.2.1 54 4 - 1).toNatClampNeg) (M.2.1 57 (M.2.1 54 4 - 1).toNatClampNeg)) 54 4 (M.2.1 54 4 - 1)) 54 5 (M.2.1 54 5 + 1) := by
      unfold xm_155
      rw [if_neg (by grind), if_pos (by grind)]
    refine Or.inr ⟨by grind, hg4, ?_, w2⟩
    unfold xf_154
    rw [if_pos w1, w2]
    rfl
theorem mn_28 {M : ro_Mm} (h : ro_Inv M) (h1 : 1 ≤ M.2.1 54 4) (h2 : M.2.1 54 4 ≤ 40) : ∃ n w u : Int32, (0 ≤ n ∧ n < 6) ∧ (0 ≤ w ∧ w ≤ 6) ∧ (0 ≤ u ∧ u ≤ ro_mst w) ∧ M.2.1 55 (M.2.1 54 4 - 1).toNatClampNeg = n ∧ M.2.1 56 (M.2.1 54 4 - 1).toNatClampNeg = w ∧ M.2.1 57 (M.2.1 54 4 - 1).toNatClampNeg = u ∧
    xm_199 (ro_sI (ro_sI (xm_33 M n w u) 54 4 (M.2.1 54 4 - 1)) 54 5 (M.2.1 54 5 + 1)) = xm_200 (ro_sI (ro_sI (ro_sI (ro_sI (xm_33 M n w u) 54 4 (M.2.1 54 4 - 1)) 54 5 (M.2.1 54 5 + 1)) 163 7 (M.2.1 54 4 - 1)) 163 8 (M.2.1 54 5 + 1)) w n u ∧ xf_199 (ro_sI (ro_sI (xm_33 M n w u) 54 4 (M.2.1 54 4 - 1)) 54 5 (M.2.1 54 5 + 1)) = M.2.1 54 4 - 1 ∧ xp_199 (ro_sI (ro_sI (xm_33 M n w u) 54 4 (M.2.1 54 4 - 1)) 54 5 (M.2.1 54 5 + 1)) := by
  obtain ⟨⟨hg1, hg2, hg3, hg4, hg5, hg6, hg7⟩, hg⟩ := h.2.1.2.2.2.2.2.2.1
  have hk := ro_clt (v := M.2.1 54 4 - 1) (n := 40) (by grind) (show M.2.1 54 4 - 1 < 40 by grind) (by decide)
  obtain ⟨⟨g1, g2, g3⟩, ⟨g4, g5, g6⟩, ⟨g7, g8, g9⟩, _⟩ := hg _ hk
  refine ⟨_, _, _, ⟨g2, g3⟩, ⟨g5, g6⟩, ⟨g8, g9⟩, rfl, rfl, rfl, mm_199 ?_ ?_ ⟨h1, h2⟩ ?_ ?_ ?_ ⟨g2, g3⟩ ⟨g5, g6⟩⟩
  · rw [rd_33 (by decide) (by decide) (by decide) (by decide) (by decide) (by decide), hg1]
  · rw [rd_33 (by decide) (by decide) (by decide) (by decide) (by decide) (by decide), hg2]
  · rw [rd_33 (by decide) (by decide) (by decide) (by decide) (by decide) (by decide), g4]
  · rw [rd_33 (by decide) (by decide) (by decide) (by decide) (by decide) (by decide), g1]
  · rw [rd_33 (by decide) (by decide) (by decide) (by decide) (by decide) (by decide), g7]
theorem pp_28 {M : ro_Mm} (h : ro_Inv M) : xp_199 (xm_154 M) := by
  rcases mm_28 h with ⟨e1, e2, e3, e4⟩ | ⟨g1, g2, g3, g4⟩
  · rw [e1]; exact e4
  · obtain ⟨n, w, u, q1, q2, q3, q4, q5, q6, q7, q8, q9⟩ := mn_28 h g1 g2
    rw [g4, q4, q5, q6]; exact q9
theorem pe_28 {M : ro_Mm} (h : ro_Inv M) : xf_199 (xm_154 M) = xf_154 M := by
  rcases mm_28 h with ⟨e1, e2, e3, e4⟩ | ⟨g1, g2, g3, g4⟩
  · rw [e1, e2]
  · obtain ⟨n, w, u, q1, q2, q3, q4, q5, q6, q7, q8, q9⟩ := mn_28 h g1 g2
    rw [g3, g4, q4, q5, q6, q8]
theorem ro_J33 {M : ro_Mm} {n w u d e : Int32} : (ro_sI (ro_sI (xm_33 M n w u) 54 4 d) 54 5 e).2.2.1 = M.2.2.1 := by
  rw [ro_sI_J, ro_sI_J]
  funext c j
  exact xwJ_33
theorem ro_J200 {M : ro_Mm} {n w u : Int32} : (xm_200 M n w u).2.2.1 = M.2.2.1 := by
  funext c j
  exact xwJ_200
theorem pi_28 {M : ro_Mm} (h : ro_Inv M) : ro_Inv (xm_199 (xm_154 M)) := by
  rcases mm_28 h with ⟨e1, e2, e3, e4⟩ | ⟨g1, g2, g3, g4⟩
  · rw [e1, e3]; exact h
  · obtain ⟨⟨hg1, hg2, hg3, hg4, hg5, hg6, hg7⟩, hg⟩ := h.2.1.2.2.2.2.2.2.1
    obtain ⟨n, w, u, q1, q2, q3, q4, q5, q6, q7, q8, q9⟩ := mn_28 h g1 g2
    have hl := xl_199 (xl_154 h.1) (pp_28 h)
    rw [g4, q4, q5, q6, q7] at hl ⊢
    obtain ⟨⟨r1, r2⟩, _⟩ := iv_tell h q1 q2 q3 (d := M.2.1 54 4 - 1) (e := M.2.1 54 5 + 1) (by grind)
    refine ⟨hl, r1, ?_⟩
    rw [ro_J200, ro_sI_J, ro_sI_J, ro_J33]
    exact r2
theorem mm_201 {M : ro_Mm} {D U w n u : Int32} (h7 : M.2.1 163 7 = D) (h8 : M.2.1 163 8 = U) (h0 : 0 ≤ D ∧ D < 40) (hU : ¬ U = 0) (e1 : M.2.1 169 D.toNatClampNeg = w) (e2 : M.2.1 170 D.toNatClampNeg = n) (e3 : M.2.1 172 D.toNatClampNeg = u) (hn : 0 ≤ n ∧ n < 6) (hw : 0 ≤ w ∧ w ≤ 6) : xm_201 M = ro_sI (ro_sI (xm_200 M w n u) 163 7 (D + 1)) 163 8 (U - 1) ∧ xf_201 M = U - 1 ∧ xp_201 M := by
  have z : ¬ M.2.1 163 8 = 0 := by rw [h8]; exact hU
  have hv := ro_vin (v := D) (n := 40) h0.1 h0.2 (by decide)
  refine ⟨?_, ?_, fun q => absurd q z, fun _ => ?_⟩
  · unfold xm_201
    rw [if_neg z, h7, h8, e1, e2, e3]
  · unfold xf_201
    rw [if_neg z, h8]
  · rw [h7, e1, e2, e3]
    exact ⟨hv, hv, hv, xp_200_t hn hw, trivial⟩
theorem mm_29 {M : ro_Mm} (h : ro_Inv M) : (xm_157 M = M ∧ xf_157 M = xf_201 M ∧ xm_201 M = M ∧ xp_201 M) ∨ (M.2.1 54 4 < 40 ∧ 1 ≤ M.2.1 54 5 ∧ xf_157 M = M.2.1 54 5 - 1 ∧ xm_157 M = ro_sI (ro_sI (xm_33 M (M.2.1 55 (M.2.1 54 4).toNatClampNeg) (M.2.1 56 (M.2.1 54 4).toNatClampNeg) (M.2.1 58 (M.2.1 54 4).toNatClampNeg)) 54 4 (M.2.1 54 4 + 1)) 54 5 (M.2.1 54 5 - 1)) := by
  obtain ⟨⟨hg1, hg2, hg3, hg4, hg5, hg6, hg7⟩, hg⟩ := h.2.1.2.2.2.2.2.2.1
  by_cases h1 : M.2.1 54 5 = 0
  · have w1 : xf_158 M = false := by grind [xf_158]
    exact Or.inl ⟨by grind [xm_157, xm_158], by grind [xf_157, xf_201], by grind [xm_201], ⟨fun _ => trivial, fun q => absurd (hg2.trans h1) q⟩⟩
  · have w1 : xf_158 M = true := by grind [xf_158]
    have w2 : xm_158 M = ro_sI (ro_sI (xm_33 M (M.2.1 55 (M.2.1 54 4).toNatClampNeg) (M.2.1 56 (M.2.1 54 4).toNatClampNeg) (M.2.1 58 (M.2.1 54 4).toNatClampNeg)) 54 4 (M.2.1 54 4 + 1)) 54 5 (M.2.1 54 5 - 1) := by
      unfold xm_158
      rw [if_neg (by grind), if_neg (by grind), if_pos (by grind)]
    refine Or.inr ⟨by grind, by grind, ?_, w2⟩
    unfold xf_157
    rw [if_pos w1, w2]
    rfl
theorem mn_29 {M : ro_Mm} (h : ro_Inv M) (h1 : 1 ≤ M.2.1 54 5) (h2 : M.2.1 54 4 < 40) : ∃ n w u : Int32, (0 ≤ n ∧ n < 6) ∧ (0 ≤ w ∧ w ≤ 6) ∧ (0 ≤ u ∧ u ≤ ro_mst w) ∧ M.2.1 55 (M.2.1 54 4).toNatClampNeg = n ∧ M.2.1 56 (M.2.1 54 4).toNatClampNeg = w ∧ M.2.1 58 (M.2.1 54 4).toNatClampNeg = u ∧
    xm_201 (ro_sI (ro_sI (xm_33 M n w u) 54 4 (M.2.1 54 4 + 1)) 54 5 (M.2.1 54 5 - 1)) = ro_sI (ro_sI (xm_200 (ro_sI (ro_sI (xm_33 M n w u) 54 4 (M.2.1 54 4 + 1)) 54 5 (M.2.1 54 5 - 1)) w n u) 163 7 (M.2.1 54 4 + 1)) 163 8 (M.2.1 54 5 - 1) ∧ xf_201 (ro_sI (ro_sI (xm_33 M n w u) 54 4 (M.2.1 54 4 + 1)) 54 5 (M.2.1 54 5 - 1)) = M.2.1 54 5 - 1 ∧ xp_201 (ro_sI (ro_sI (xm_33 M n w u) 54 4 (M.2.1 54 4 + 1)) 54 5 (M.2.1 54 5 - 1)) := by
  obtain ⟨⟨hg1, hg2, hg3, hg4, hg5, hg6, hg7⟩, hg⟩ := h.2.1.2.2.2.2.2.2.1
  have hk := ro_clt (v := M.2.1 54 4) (n := 40) hg3 h2 (by decide)
  obtain ⟨⟨g1, g2, g3⟩, ⟨g4, g5, g6⟩, _, ⟨g7, g8, g9⟩⟩ := hg _ hk
  refine ⟨_, _, _, ⟨g2, g3⟩, ⟨g5, g6⟩, ⟨g8, g9⟩, rfl, rfl, rfl, mm_201 (D := M.2.1 54 4) (U := M.2.1 54 5) ?_ ?_ ⟨hg3, h2⟩ (by grind) ?_ ?_ ?_ ⟨g2, g3⟩ ⟨g5, g6⟩⟩
  · rw [rd_33 (by decide) (by decide) (by decide) (by decide) (by decide) (by decide), hg1]
  · rw [rd_33 (by decide) (by decide) (by decide) (by decide) (by decide) (by decide), hg2]
  · rw [rd_33 (by decide) (by decide) (by decide) (by decide) (by decide) (by decide), g4]
  · rw [rd_33 (by decide) (by decide) (by decide) (by decide) (by decide) (by decide), g1]
  · rw [rd_33 (by decide) (by decide) (by decide) (by decide) (by decide) (by decide), g7]
theorem pp_29 {M : ro_Mm} (h : ro_Inv M) : xp_201 (xm_157 M) := by
  rcases mm_29 h with ⟨e1, e2, e3, e4⟩ | ⟨g1, g2, g3, g4⟩
  · rw [e1]; exact e4
  · obtain ⟨n, w, u, q1, q2, q3, q4, q5, q6, q7, q8, q9⟩ := mn_29 h g2 g1
    rw [g4, q4, q5, q6]; exact q9
theorem pe_29 {M : ro_Mm} (h : ro_Inv M) : xf_201 (xm_157 M) = xf_157 M := by
  rcases mm_29 h with ⟨e1, e2, e3, e4⟩ | ⟨g1, g2, g3, g4⟩
  · rw [e1, e2]
  · obtain ⟨n, w, u, q1, q2, q3, q4, q5, q6, q7, q8, q9⟩ := mn_29 h g2 g1
    rw [g3, g4, q4, q5, q6, q8]
theorem pi_29 {M : ro_Mm} (h : ro_Inv M) : ro_Inv (xm_201 (xm_157 M)) := by
  rcases mm_29 h with ⟨e1, e2, e3, e4⟩ | ⟨g1, g2, g3, g4⟩
  · rw [e1, e3]; exact h
  · obtain ⟨⟨hg1, hg2, hg3, hg4, hg5, hg6, hg7⟩, hg⟩ := h.2.1.2.2.2.2.2.2.1
    obtain ⟨n, w, u, q1, q2, q3, q4, q5, q6, q7, q8, q9⟩ := mn_29 h g2 g1
    have hl := xl_201 (xl_157 h.1) (pp_29 h)
    rw [g4, q4, q5, q6, q7] at hl ⊢
    obtain ⟨_, r1, r2⟩ := iv_tell h q1 q2 q3 (d := M.2.1 54 4 + 1) (e := M.2.1 54 5 - 1) (by grind)
    refine ⟨hl, r1, ?_⟩
    rw [ro_sI_J, ro_sI_J, ro_J200, ro_J33]
    exact r2
end PAIRS3

