/-! the law at work: a pile of words, the class's and the reference's -/
section ODDS1
theorem ro_rd_s {M : ro_Mm} {a i : Nat} {v : Int32} {c j : Nat} : (ro_sI M a i v).2.1 c j = if c = a ∧ j = i then v else M.2.1 c j := rfl
theorem ro_div1 (a : Int32) : a / (-1) = -a := by
  apply Int32.toInt_inj.mp
  rw [Int32.toInt_div, show (-1 : Int32).toInt = -1 by decide, Int.tdiv_neg, Int.tdiv_one, Int32.toInt_neg]
theorem ro_rem1 (a : Int32) : ro_irem a (-1) = 0 := by
  unfold ro_irem
  rw [ro_div1]
  have e : -a * -1 = a := by rw [Int32.mul_neg, Int32.mul_one, Int32.neg_neg]
  rw [e, Int32.sub_self]
/-- a pile, its top first -/
def lw_stk (f : Nat → Int32) : List Int32 → Prop
  | [] => True
  | v :: s => f s.length = v ∧ lw_stk f s
theorem lw_stk_c {f g : Nat → Int32} : ∀ {s : List Int32}, (∀ k, k < s.length → g k = f k) → lw_stk f s → lw_stk g s
  | [], _, _ => trivial
  | _ :: s, h, q => ⟨(h _ (Nat.lt_succ_self _)).trans q.1, lw_stk_c (s := s) (fun k hk => h k (Nat.lt_succ_of_lt hk)) q.2⟩
/-- the class's pile, what the names stand for -/
def lw_C (f : Nat → Int32) (M : ro_Mm) (s : List Int32) : Prop := M.2.1 16 9 = nI s.length ∧ lw_stk (M.2.1 20) s ∧ ∀ k, k < 6 → M.2.1 21 k = f k
def lw_Cf (M A : ro_Mm) : Prop := ∀ c j, c ≠ 20 → ¬ (c = 16 ∧ j = 9) → A.2.1 c j = M.2.1 c j
theorem lw_Cf_t {A B C : ro_Mm} (h : lw_Cf A B) (g : lw_Cf B C) : lw_Cf A C := fun c j h1 h2 => (g c j h1 h2).trans (h c j h1 h2)
theorem lw_Cf_r {A : ro_Mm} : lw_Cf A A := fun _ _ _ _ => rfl
section CL
variable {f : Nat → Int32} {M : ro_Mm} {s : List Int32} {v : Int32}
theorem lw_push (h : lw_C f M s) (hs : s.length < 121) : lw_C f (xm_62 M v) (v :: s) ∧ lw_Cf M (xm_62 M v) := by
  have e : xm_62 M v = ro_sI (ro_sI M 20 s.length v) 16 9 (nI (s.length + 1)) := by
    have c : ¬ (121 : Int32) ≤ nI s.length := nI_ge (b := 121) hs (by omega)
    unfold xm_62
    rw [h.1, if_neg (nI_pos (by omega)), if_neg c, nI_clamp (by omega), nI_succ]
  rw [e]
  refine ⟨⟨?_, ⟨?_, ?_⟩, ?_⟩, ?_⟩
  · rw [ro_rd_s, if_pos ⟨rfl, rfl⟩]; rfl
  · rw [ro_rd_s, if_neg (by omega), ro_rd_s, if_pos ⟨rfl, rfl⟩]
  · refine lw_stk_c (fun k hk => ?_) h.2.1
    rw [ro_rd_s, if_neg (by omega), ro_rd_s, if_neg (by omega)]
  · intro k hk
    rw [ro_rd_s, if_neg (by omega), ro_rd_s, if_neg (by omega)]
    exact h.2.2 k hk
  · intro c j h1 h2
    rw [ro_rd_s, if_neg h2, ro_rd_s, if_neg (by omega)]
theorem lw_pop (h : lw_C f M (v :: s)) (hs : s.length < 121) : xf_61 M = v ∧ xp_61 M ∧ lw_C f (xm_61 M) s ∧ lw_Cf M (xm_61 M) := by
  have e0 : M.2.1 16 9 = nI (s.length + 1) := h.1
  have n0 : ¬ nI (s.length + 1) ≤ 0 := nI_nle (by omega) (by omega)
  have n1 : nI (s.length + 1) ≤ 121 := nI_le (b := 121) (by omega) (by omega)
  have e2 : nI (s.length + 1) - 1 = nI s.length := nI_pred _
  have e3 : (nI s.length).toNatClampNeg = s.length := nI_clamp (by omega)
  have e : xm_61 M = ro_sI M 16 9 (nI s.length) := by
    unfold xm_61
    rw [e0, if_neg n0, if_pos n1, e2]
  refine ⟨?_, ?_, ?_, ?_⟩
  · unfold xf_61
    rw [e0, if_neg n0, if_pos n1, e2, e3]
    exact h.2.1.1
  · unfold xp_61
    rw [e0, e2]
    exact ⟨fun _ => trivial, fun _ => ⟨fun _ => ⟨ro_vn hs (by omega), trivial⟩, fun _ => trivial⟩⟩
  · rw [e]
    refine ⟨?_, ?_, ?_⟩
    · rw [ro_rd_s, if_pos ⟨rfl, rfl⟩]
    · refine lw_stk_c (fun k hk => ?_) h.2.1.2
      rw [ro_rd_s, if_neg (by omega)]
    · intro k hk
      rw [ro_rd_s, if_neg (by omega)]
      exact h.2.2 k hk
  · rw [e]
    intro c j h1 h2
    rw [ro_rd_s, if_neg h2]
end CL
theorem lw_nm_i {w : Int32} {k : Nat} (h : lw_nm w = some k) : (w = -112 ∧ k = 0) ∨ (w = -98 ∧ k = 1) ∨ (w = -119 ∧ k = 2) ∨ (w = -99 ∧ k = 3) ∨ (w = -104 ∧ k = 4) ∨ (w = -110 ∧ k = 5) := by
  unfold lw_nm at h
  grind (splits := 40)
theorem lw_nm_n {w : Int32} (h : lw_nm w = none) : ¬ w = -112 ∧ ¬ w = -98 ∧ ¬ w = -119 ∧ ¬ w = -99 ∧ ¬ w = -104 ∧ ¬ w = -110 := by
  unfold lw_nm at h
  grind (splits := 40)
theorem lw_two_i {w a b v : Int32} (h : lw_two w a b = some v) : (w = -124 ∨ w = -38 ∨ w = -60 ∨ w = -61 ∨ w = -62 ∨ w = -43 ∨ w = -45 ∨ w = -42 ∨ w = -47 ∨ w = -37) := by
  unfold lw_two at h
  grind (splits := 40)
theorem lw_two_c {M : ro_Mm} {w a b v : Int32} (h : lw_two w a b = some v) : xf_63 M (-w) a b = v := by
  rcases lw_two_i h with e | e | e | e | e | e | e | e | e | e <;> rw [e] at h ⊢ <;> unfold lw_two at h <;> unfold xf_63 <;> simp (config := {decide := true}) only [if_true, if_false, Option.some.injEq] at h ⊢ <;> grind
theorem lw_two_m {M : ro_Mm} {w a b v : Int32} (h : lw_two w a b = some v) : xf_232 M (-w) a b = v := by
  have d1 : ∀ z : Int32, b = -1 → z / b = -z := fun z e => by rw [e, ro_div1]
  have d2 : ∀ z : Int32, b = -1 → ro_irem z b = 0 := fun z e => by rw [e, ro_rem1]
  rcases lw_two_i h with e | e | e | e | e | e | e | e | e | e <;> rw [e] at h ⊢ <;> unfold lw_two at h <;> unfold xf_232 <;> simp (config := {decide := true}) only [if_true, if_false, Option.some.injEq] at h ⊢ <;> grind
/-- kinds of words -/
theorem lw_one_i {f : Nat → Int32} {w : Int32} {s r : List Int32} (h : lw_one f w s = some r) :
    (0 ≤ w ∧ r = w :: s) ∨ (∃ k, k < 6 ∧ ¬ 0 ≤ w ∧ lw_nm w = some k ∧ r = f k :: s) ∨ (∃ b q, w = -33 ∧ s = b :: q ∧ r = (if b = 0 then 1 else 0) :: q) ∨ (∃ b q, w = -126 ∧ s = b :: q ∧ r = (-b) :: q) ∨
    (∃ b a q v, ¬ 0 ≤ w ∧ lw_nm w = none ∧ ¬ w = -33 ∧ ¬ w = -126 ∧ s = b :: a :: q ∧ lw_two w a b = some v ∧ r = v :: q) := by
  unfold lw_one at h
  by_cases h0 : 0 ≤ w
  · rw [if_pos h0] at h
    exact Or.inl ⟨h0, (Option.some.inj h).symm⟩
  · rw [if_neg h0] at h
    cases hn : lw_nm w with
    | some k =>
      rw [hn] at h
      have hk := lw_nm_i hn
      exact Or.inr (Or.inl ⟨k, by omega, h0, rfl, (Option.some.inj h).symm⟩)
    | none =>
      rw [hn] at h
      match s, h with
      | b :: q, h =>
        simp only at h
        by_cases h1 : w = -33
        · rw [if_pos h1] at h
          exact Or.inr (Or.inr (Or.inl ⟨b, q, h1, rfl, (Option.some.inj h).symm⟩))
        · rw [if_neg h1] at h
          by_cases h2 : w = -126
          · rw [if_pos h2] at h
            exact Or.inr (Or.inr (Or.inr (Or.inl ⟨b, q, h2, rfl, (Option.some.inj h).symm⟩)))
          · rw [if_neg h2] at h
            match q, h with
            | a :: t, h =>
              simp only at h
              cases ht : lw_two w a b with
              | none => rw [ht] at h; cases h
              | some v =>
                rw [ht] at h
                exact Or.inr (Or.inr (Or.inr (Or.inr ⟨b, a, t, v, h0, rfl, h1, h2, rfl, ht, (Option.some.inj h).symm⟩)))
theorem lw_one_n {f : Nat → Int32} {w : Int32} {s r : List Int32} (h : lw_one f w s = some r) : ¬ w = -59 ∧ ¬ w = -63 := by
  rcases lw_one_i h with q | ⟨k, q0, q1, q2, q3⟩ | ⟨b, q, q1, q2⟩ | ⟨b, q, q1, q2⟩ | ⟨b, a, q, v, q0, q1, q2, q3, q4, q5, q6⟩
  · have := q.1
    constructor <;> intro e <;> rw [e] at this <;> exact absurd this (by decide)
  · have := lw_nm_i q2
    constructor <;> intro e <;> rw [e] at this <;> exact absurd this (by simp (config := {decide := true}))
  · rw [q1]; decide
  · rw [q1]; decide
  · have := lw_two_i q5
    constructor <;> intro e <;> rw [e] at this <;> exact absurd this (by decide)
theorem lw_one_l {f : Nat → Int32} {w : Int32} {s r : List Int32} (h : lw_one f w s = some r) : r.length ≤ s.length + 1 := by
  rcases lw_one_i h with q | ⟨k, q0, q1, q2, q3⟩ | ⟨b, q, q1, q2, q3⟩ | ⟨b, q, q1, q2, q3⟩ | ⟨b, a, q, v, q0, q1, q2, q3, q4, q5, q6⟩
  · rw [q.2]; exact Nat.le_refl _
  · rw [q3]; exact Nat.le_refl _
  · rw [q3, q2]; simp only [List.length_cons]; omega
  · rw [q3, q2]; simp only [List.length_cons]; omega
  · rw [q6, q4]; simp only [List.length_cons]; omega
/-- one word in the class -/
theorem lz_c1 {f : Nat → Int32} {M : ro_Mm} {s r : List Int32} {w : Int32} {i : Nat} (h : lw_C f M s) (hs : s.length < 121) (h1 : lw_one f w s = some r) (hi : i < 121) (hw : M.2.1 19 i = w) (hc : ¬ M.2.1 16 8 ≤ nI i) :
    ∃ A, (∀ n, xg_60_7 (n + 1) M (nI i) = xg_60_7 n A (nI (i + 1)) ∧ (xq_60_7 n A (nI (i + 1)) → xq_60_7 (n + 1) M (nI i))) ∧ lw_C f A r ∧ lw_Cf M A := by
  have e1 : (nI i).toNatClampNeg = i := nI_clamp (by omega)
  have c2 : ¬ (121 : Int32) ≤ nI i := nI_ge (b := 121) hi (by omega)
  have c3 : vp_in (nI i) 121 := ro_vn hi (by omega)
  obtain ⟨c4, c5⟩ := lw_one_n h1
  rcases lw_one_i h1 with ⟨q0, q1⟩ | ⟨k, q0, q1, q2, q3⟩ | ⟨b, q, q1, q2, q3⟩ | ⟨b, q, q1, q2, q3⟩ | ⟨b, a, q, v, q0, q1, q2, q3, q4, q5, q6⟩
  · obtain ⟨p1, p2⟩ := lw_push (v := w) h hs
    have q2 : ¬ w < 0 := Int32.not_lt.mpr q0
    refine ⟨xm_62 M w, fun n => ?_, by rw [q1]; exact p1, p2⟩
    rw [nI_succ]
    refine ⟨by rw [xg_60_7, if_neg hc, if_neg c2, e1, hw, if_neg c4, if_neg c5, if_neg q2], fun g => ?_⟩
    rw [xq_60_7, e1, hw]
    exact ⟨fun y => absurd y hc, fun _ => ⟨fun y => absurd y c2, fun _ => ⟨c3, fun y => absurd y c4, fun _ => ⟨fun y => absurd y c5, fun _ => ⟨fun y => absurd y q2, fun _ => g⟩⟩⟩⟩⟩
  · obtain ⟨p1, p2⟩ := lw_push (v := f k) h hs
    have q4 : w < 0 := Int32.not_le.mp q1
    have q5 : xf_52 M (-w) = nI k := by
      rcases lw_nm_i q2 with ⟨e, e2⟩ | ⟨e, e2⟩ | ⟨e, e2⟩ | ⟨e, e2⟩ | ⟨e, e2⟩ | ⟨e, e2⟩ <;> rw [e, e2] <;> unfold xf_52 <;> decide
    have q6 : ¬ nI k < 0 := nI_pos (by omega)
    have q7 : ¬ (6 : Int32) ≤ nI k := nI_ge (b := 6) q0 (by omega)
    have q8 : (nI k).toNatClampNeg = k := nI_clamp (by omega)
    have q9 : M.2.1 21 k = f k := h.2.2 k q0
    refine ⟨xm_62 M (f k), fun n => ?_, by rw [q3]; exact p1, p2⟩
    rw [nI_succ]
    refine ⟨by rw [xg_60_7, if_neg hc, if_neg c2, e1, hw, if_neg c4, if_neg c5, if_pos q4, q5, if_neg q6, if_neg q7, q8, q9], fun g => ?_⟩
    rw [xq_60_7, e1, hw, q5, q8, q9]
    exact ⟨fun y => absurd y hc, fun _ => ⟨fun y => absurd y c2, fun _ => ⟨c3, fun y => absurd y c4, fun _ => ⟨fun y => absurd y c5, fun _ => ⟨fun _ => ⟨fun y => absurd y q6, fun _ => ⟨fun y => absurd y q7, fun _ => g⟩⟩, fun y => absurd q4 y⟩⟩⟩⟩⟩
  · have h := q2 ▸ h
    have hs := q2 ▸ hs
    simp only [List.length_cons] at hs
    obtain ⟨p1, p2, p3, p4⟩ := lw_pop h (by omega)
    obtain ⟨p5, p6⟩ := lw_push (v := if b = 0 then 1 else 0) p3 (by omega)
    have q4 : w < 0 := by rw [q1]; decide
    have q5 : xf_52 M (-w) < 0 := by rw [q1]; unfold xf_52; decide
    refine ⟨xm_62 (xm_61 M) (if b = 0 then 1 else 0), fun n => ?_, by rw [q3]; exact p5, lw_Cf_t p4 p6⟩
    rw [nI_succ]
    by_cases z : b = 0
    · simp only [if_pos z]
      refine ⟨by rw [xg_60_7, if_neg hc, if_neg c2, e1, hw, if_neg c4, if_neg c5, if_pos q4, if_pos q5, if_pos q1, p1, if_pos z], fun g => ?_⟩
      rw [xq_60_7, e1, hw, p1]
      exact ⟨fun y => absurd y hc, fun _ => ⟨fun y => absurd y c2, fun _ => ⟨c3, fun y => absurd y c4, fun _ => ⟨fun y => absurd y c5, fun _ => ⟨fun _ => ⟨fun _ => ⟨fun _ => ⟨p2, fun _ => g, fun y => absurd z y⟩, fun y => absurd q1 y⟩, fun y => absurd q5 y⟩, fun y => absurd q4 y⟩⟩⟩⟩⟩
    · simp only [if_neg z]
      refine ⟨by rw [xg_60_7, if_neg hc, if_neg c2, e1, hw, if_neg c4, if_neg c5, if_pos q4, if_pos q5, if_pos q1, p1, if_neg z], fun g => ?_⟩
      rw [xq_60_7, e1, hw, p1]
      exact ⟨fun y => absurd y hc, fun _ => ⟨fun y => absurd y c2, fun _ => ⟨c3, fun y => absurd y c4, fun _ => ⟨fun y => absurd y c5, fun _ => ⟨fun _ => ⟨fun _ => ⟨fun _ => ⟨p2, fun y => absurd y z, fun _ => g⟩, fun y => absurd q1 y⟩, fun y => absurd q5 y⟩, fun y => absurd q4 y⟩⟩⟩⟩⟩
  · have h := q2 ▸ h
    have hs := q2 ▸ hs
    simp only [List.length_cons] at hs
    obtain ⟨p1, p2, p3, p4⟩ := lw_pop h (by omega)
    obtain ⟨p5, p6⟩ := lw_push (v := -b) p3 (by omega)
    have q4 : w < 0 := by rw [q1]; decide
    have q5 : xf_52 M (-w) < 0 := by rw [q1]; unfold xf_52; decide
    have q6 : ¬ w = -33 := by rw [q1]; decide
    refine ⟨xm_62 (xm_61 M) (-b), fun n => ?_, by rw [q3]; exact p5, lw_Cf_t p4 p6⟩
    rw [nI_succ]
    refine ⟨by rw [xg_60_7, if_neg hc, if_neg c2, e1, hw, if_neg c4, if_neg c5, if_pos q4, if_pos q5, if_neg q6, if_pos q1, p1], fun g => ?_⟩
    rw [xq_60_7, e1, hw, p1]
    exact ⟨fun y => absurd y hc, fun _ => ⟨fun y => absurd y c2, fun _ => ⟨c3, fun y => absurd y c4, fun _ => ⟨fun y => absurd y c5, fun _ => ⟨fun _ => ⟨fun _ => ⟨fun y => absurd y q6, fun _ => ⟨fun _ => ⟨p2, g⟩, fun y => absurd q1 y⟩⟩, fun y => absurd q5 y⟩, fun y => absurd q4 y⟩⟩⟩⟩⟩
  · have h := q4 ▸ h
    have hs := q4 ▸ hs
    simp only [List.length_cons] at hs
    obtain ⟨p1, p2, p3, p4⟩ := lw_pop h (by simp only [List.length_cons]; omega)
    obtain ⟨r1, r2, r3, r4⟩ := lw_pop p3 (by omega)
    obtain ⟨p5, p6⟩ := lw_push (v := v) r3 (by omega)
    have z4 : w < 0 := Int32.not_le.mp q0
    have z5 : xf_52 M (-w) < 0 := by
      rcases lw_two_i q5 with e | e | e | e | e | e | e | e | e | e <;> rw [e] <;> unfold xf_52 <;> decide
    have z6 : xf_63 (xm_61 (xm_61 M)) (-w) a b = v := lw_two_c q5
    refine ⟨xm_62 (xm_61 (xm_61 M)) v, fun n => ?_, by rw [q6]; exact p5, lw_Cf_t (lw_Cf_t p4 r4) p6⟩
    rw [nI_succ]
    refine ⟨by rw [xg_60_7, if_neg hc, if_neg c2, e1, hw, if_neg c4, if_neg c5, if_pos z4, if_pos z5, if_neg q2, if_neg q3, p1, r1, z6], fun g => ?_⟩
    rw [xq_60_7, e1, hw, p1, r1, z6]
    exact ⟨fun y => absurd y hc, fun _ => ⟨fun y => absurd y c2, fun _ => ⟨c3, fun y => absurd y c4, fun _ => ⟨fun y => absurd y c5, fun _ => ⟨fun _ => ⟨fun _ => ⟨fun y => absurd y q2, fun _ => ⟨fun y => absurd y q3, fun _ => ⟨p2, r2, g⟩⟩⟩, fun y => absurd z5 y⟩, fun y => absurd z4 y⟩⟩⟩⟩⟩
/-- words in the class -/
theorem lw_csr {f : Nat → Int32} : ∀ (ws : List Int32) {M : ro_Mm} {s r : List Int32} {i : Nat}, lw_C f M s → s.length + ws.length ≤ 121 → lw_run f ws s = some r → i + ws.length ≤ 121 → (∀ k, k < ws.length → M.2.1 19 (i + k) = ws.getD k 0) → (∀ k, k < ws.length → ¬ M.2.1 16 8 ≤ nI (i + k)) →
    ∃ A, (∀ n, xg_60_7 (n + ws.length) M (nI i) = xg_60_7 n A (nI (i + ws.length)) ∧ (xq_60_7 n A (nI (i + ws.length)) → xq_60_7 (n + ws.length) M (nI i))) ∧ lw_C f A r ∧ lw_Cf M A := by
  intro ws
  induction ws with
  | nil =>
    intro M s r i h _ h1 _ _ _
    rw [lw_run] at h1
    rw [← Option.some.inj h1]
    exact ⟨M, fun n => ⟨rfl, id⟩, h, lw_Cf_r⟩
  | cons w ws ih =>
    intro M s r i h hs h1 hi hw hc
    rw [lw_run] at h1
    simp only [List.length_cons] at hs hi
    cases ho : lw_one f w s with
    | none => rw [ho] at h1; cases h1
    | some t =>
      rw [ho] at h1
      have h1 : lw_run f ws t = some r := h1
      have hl := lw_one_l ho
      obtain ⟨A, a1, a2, a3⟩ := lz_c1 h (by omega) ho (i := i) (by omega) (hw 0 (by simp only [List.length_cons]; omega)) (hc 0 (by simp only [List.length_cons]; omega))
      obtain ⟨B, b1, b2, b3⟩ := ih (i := i + 1) a2 (by omega) h1 (by omega)
        (fun k hk => by
          rw [a3 19 _ (by omega) (by omega)]
          have := hw (k + 1) (by simp only [List.length_cons]; omega)
          rw [show i + 1 + k = i + (k + 1) by omega]
          exact this)
        (fun k hk => by
          rw [a3 16 8 (by omega) (by omega), show i + 1 + k = i + (k + 1) by omega]
          exact hc (k + 1) (by simp only [List.length_cons]; omega))
      refine ⟨B, fun n => ?_, b2, lw_Cf_t a3 b3⟩
      obtain ⟨x1, x2⟩ := a1 (n + ws.length)
      obtain ⟨y1, y2⟩ := b1 n
      rw [show i + (w :: ws).length = i + 1 + ws.length by simp only [List.length_cons]; omega, show n + (w :: ws).length = n + ws.length + 1 by simp only [List.length_cons]; omega]
      exact ⟨x1.trans y1, fun g => x2 (y2 g)⟩
end ODDS1

