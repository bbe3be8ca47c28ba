/-! the law at work, on: the reference's pile, lines, the odds -/
section ODDS2
theorem ro_m1 (k : Nat) : nI (k + 1) + -1 = nI k := by rw [← Int32.sub_eq_add_neg]; exact nI_pred k
def lw_R (f : Nat → Int32) (M : ro_Mm) (s : List Int32) : Prop := lw_stk (M.2.1 180) s ∧ ∀ k, k < 6 → M.2.1 179 k = f k
theorem lw_Rset {f : Nat → Int32} {M : ro_Mm} {s : List Int32} {v : Int32} (h : lw_R f M s) : lw_R f (ro_sI M 180 s.length v) (v :: s) := by
  refine ⟨⟨?_, lw_stk_c (fun k hk => ?_) h.1⟩, fun k hk => ?_⟩
  · rw [ro_rd_s, if_pos ⟨rfl, rfl⟩]
  · rw [ro_rd_s, if_neg (by omega)]
  · rw [ro_rd_s, if_neg (by omega)]; exact h.2 k hk
theorem lw_Rpop {f : Nat → Int32} {M : ro_Mm} {s : List Int32} {v : Int32} (h : lw_R f M (v :: s)) : lw_R f M s := ⟨h.1.2, h.2⟩
/-- one word in the reference -/
theorem lz_r1 {f : Nat → Int32} {M : ro_Mm} {s r : List Int32} {w v1 v2 v3 : Int32} {i : Nat} (h : lw_R f M s) (hs : s.length < 130) (h1 : lw_one f w s = some r) (hi : i < 130) (ha : M.2.1 174 i = lw_act w) (hw : M.2.1 175 i = lw_with w) (hc : ¬ (130 : Int32) * v1 + v3 ≤ nI i) :
    ∃ A, (∀ n, xg_231_12 (n + 1) M (nI i) (nI s.length) v1 v2 v3 = xg_231_12 n A (nI (i + 1)) (nI r.length) v1 v2 v3 ∧ (xq_231_12 n A (nI (i + 1)) (nI r.length) v1 v2 v3 → xq_231_12 (n + 1) M (nI i) (nI s.length) v1 v2 v3)) ∧ lw_R f A r ∧ (∀ c j, c ≠ 180 → A.2.1 c j = M.2.1 c j) := by
  have e1 : (nI i).toNatClampNeg = i := nI_clamp (by omega)
  have c3 : vp_in (nI i) 260 := ro_vn (by omega) (by omega)
  have fr : ∀ (u : Int32) (k : Nat) c j, c ≠ 180 → (ro_sI M 180 k u).2.1 c j = M.2.1 c j := fun u k c j hcj => by rw [ro_rd_s, if_neg (by omega)]
  rcases lw_one_i h1 with ⟨q0, q1⟩ | ⟨k, q0, q1, q2, q3⟩ | ⟨b, q, q1, q2, q3⟩ | ⟨b, q, q1, q2, q3⟩ | ⟨b, a, q, v, q0, q1, q2, q3, q4, q5, q6⟩
  · have ea : M.2.1 174 i = 1 := by rw [ha]; unfold lw_act; rw [if_pos q0]
    have ew : M.2.1 175 i = w := by rw [hw]; unfold lw_with; rw [if_pos q0]
    have v0 : vp_in (nI s.length) 130 := ro_vn hs (by omega)
    refine ⟨ro_sI M 180 s.length w, fun n => ?_, by rw [q1]; exact lw_Rset h, fr _ _⟩
    have n1 : (1 : Int32) = 1 := rfl
    rw [q1, nI_succ, List.length_cons, nI_succ]
    refine ⟨by rw [xg_231_12, if_neg hc, e1, ea, if_pos n1, ew, nI_clamp (n := s.length) (by omega)], fun g => ?_⟩
    rw [xq_231_12, e1, ea, ew, nI_clamp (n := s.length) (by omega)]
    exact ⟨fun y => absurd y hc, fun _ => ⟨c3, fun _ => ⟨c3, v0, g⟩, fun y => absurd n1 y⟩⟩
  · have ea : M.2.1 174 i = 2 := by rw [ha]; unfold lw_act; rw [if_neg q1, q2]; rfl
    have ew : M.2.1 175 i = nI k := by rw [hw]; unfold lw_with; rw [if_neg q1, q2]
    have n1 : ¬ (2 : Int32) = 1 := by decide
    have n2 : (2 : Int32) = 2 := rfl
    have v0 : vp_in (nI s.length) 130 := ro_vn hs (by omega)
    have v4 : vp_in (nI k) 6 := ro_vn q0 (by omega)
    refine ⟨ro_sI M 180 s.length (f k), fun n => ?_, by rw [q3]; exact lw_Rset h, fr _ _⟩
    rw [q3, nI_succ, List.length_cons, nI_succ]
    refine ⟨by rw [xg_231_12, if_neg hc, e1, ea, if_neg n1, if_pos n2, ew, nI_clamp (n := s.length) (by omega), nI_clamp (n := k) (by omega), h.2 k q0], fun g => ?_⟩
    rw [xq_231_12, e1, ea, ew, nI_clamp (n := s.length) (by omega), nI_clamp (n := k) (by omega), h.2 k q0]
    exact ⟨fun y => absurd y hc, fun _ => ⟨c3, fun y => absurd y n1, fun _ => ⟨fun _ => ⟨c3, v4, v0, g⟩, fun y => absurd n2 y⟩⟩⟩
  · have ea : M.2.1 174 i = 3 := by rw [ha, q1]; decide
    have n1 : ¬ (3 : Int32) = 1 := by decide
    have n2 : ¬ (3 : Int32) = 2 := by decide
    have n3 : (3 : Int32) = 3 := rfl
    have h := q2 ▸ h
    have hs := q2 ▸ hs
    simp only [List.length_cons] at hs
    have v0 : vp_in (nI q.length) 130 := ro_vn (by omega) (by omega)
    refine ⟨ro_sI M 180 q.length (if b = 0 then 1 else 0), fun n => ?_, by rw [q3]; exact lw_Rset (lw_Rpop h), fr _ _⟩
    rw [q3, q2, nI_succ, List.length_cons, List.length_cons]
    by_cases z : b = 0
    · simp only [if_pos z]
      refine ⟨by rw [xg_231_12, if_neg hc, e1, ea, if_neg n1, if_neg n2, if_pos n3, nI_pred, nI_clamp (n := q.length) (by omega), h.1.1, if_pos z], fun g => ?_⟩
      rw [xq_231_12, e1, ea, nI_pred, nI_clamp (n := q.length) (by omega), h.1.1]
      exact ⟨fun y => absurd y hc, fun _ => ⟨c3, fun y => absurd y n1, fun _ => ⟨fun y => absurd y n2, fun _ => ⟨fun _ => ⟨v0, fun _ => ⟨v0, g⟩, fun y => absurd z y⟩, fun y => absurd n3 y⟩⟩⟩⟩
    · simp only [if_neg z]
      refine ⟨by rw [xg_231_12, if_neg hc, e1, ea, if_neg n1, if_neg n2, if_pos n3, nI_pred, nI_clamp (n := q.length) (by omega), h.1.1, if_neg z], fun g => ?_⟩
      rw [xq_231_12, e1, ea, nI_pred, nI_clamp (n := q.length) (by omega), h.1.1]
      exact ⟨fun y => absurd y hc, fun _ => ⟨c3, fun y => absurd y n1, fun _ => ⟨fun y => absurd y n2, fun _ => ⟨fun _ => ⟨v0, fun y => absurd y z, fun _ => ⟨v0, g⟩⟩, fun y => absurd n3 y⟩⟩⟩⟩
  · have ea : M.2.1 174 i = 4 := by rw [ha, q1]; decide
    have n1 : ¬ (4 : Int32) = 1 := by decide
    have n2 : ¬ (4 : Int32) = 2 := by decide
    have n3 : ¬ (4 : Int32) = 3 := by decide
    have n4 : (4 : Int32) = 4 := rfl
    have h := q2 ▸ h
    have hs := q2 ▸ hs
    simp only [List.length_cons] at hs
    have v0 : vp_in (nI q.length) 130 := ro_vn (by omega) (by omega)
    refine ⟨ro_sI M 180 q.length (-b), fun n => ?_, by rw [q3]; exact lw_Rset (lw_Rpop h), fr _ _⟩
    rw [q3, q2, nI_succ, List.length_cons, List.length_cons]
    refine ⟨by rw [xg_231_12, if_neg hc, e1, ea, if_neg n1, if_neg n2, if_neg n3, if_pos n4, nI_pred, nI_clamp (n := q.length) (by omega), h.1.1], fun g => ?_⟩
    rw [xq_231_12, e1, ea, nI_pred, nI_clamp (n := q.length) (by omega), h.1.1]
    exact ⟨fun y => absurd y hc, fun _ => ⟨c3, fun y => absurd y n1, fun _ => ⟨fun y => absurd y n2, fun _ => ⟨fun y => absurd y n3, fun _ => ⟨fun _ => ⟨v0, v0, g⟩, fun y => absurd n4 y⟩⟩⟩⟩⟩
  · have ea : M.2.1 174 i = -w := by rw [ha]; unfold lw_act; rw [if_neg q0, q1, if_neg q2, if_neg q3]; rfl
    have nn : ¬ (-w = 1) ∧ ¬ (-w = 2) ∧ ¬ (-w = 3) ∧ ¬ (-w = 4) := by
      rcases lw_two_i q5 with e | e | e | e | e | e | e | e | e | e <;> rw [e] <;> decide
    obtain ⟨n1, n2, n3, n4⟩ := nn
    have h := q4 ▸ h
    have hs := q4 ▸ hs
    simp only [List.length_cons] at hs
    have v0 : vp_in (nI q.length) 130 := ro_vn (by omega) (by omega)
    have v5 : vp_in (nI (q.length + 1)) 130 := ro_vn (by omega) (by omega)
    have z6 : xf_232 M (-w) a b = v := lw_two_m q5
    have h2 : M.2.1 180 (q.length + 1) = b := h.1.1
    have h3 : M.2.1 180 q.length = a := h.1.2.1
    refine ⟨ro_sI M 180 q.length v, fun n => ?_, by rw [q6]; exact lw_Rset (lw_Rpop (lw_Rpop h)), fr _ _⟩
    rw [q6, q4, nI_succ, List.length_cons, List.length_cons, List.length_cons]
    refine ⟨by rw [xg_231_12, if_neg hc, e1, ea, if_neg n1, if_neg n2, if_neg n3, if_neg n4, ro_m1, nI_pred, nI_clamp (n := q.length) (by omega), nI_clamp (n := q.length + 1) (by omega), h2, h3, z6], fun g => ?_⟩
    rw [xq_231_12, e1, ea, ro_m1, nI_pred q.length, nI_clamp (n := q.length) (by omega), nI_clamp (n := q.length + 1) (by omega), h2, h3, z6]
    exact ⟨fun y => absurd y hc, fun _ => ⟨c3, fun y => absurd y n1, fun _ => ⟨fun y => absurd y n2, fun _ => ⟨fun y => absurd y n3, fun _ => ⟨fun y => absurd y n4, fun _ => ⟨v0, v5, v0, g⟩⟩⟩⟩⟩⟩
/-- words in the reference -/
theorem lw_rs {f : Nat → Int32} {v1 v2 v3 : Int32} : ∀ (ws : List Int32) {M : ro_Mm} {s r : List Int32} {i : Nat}, lw_R f M s → s.length + ws.length ≤ 130 → lw_run f ws s = some r → i + ws.length ≤ 130 → (∀ k, k < ws.length → M.2.1 174 (i + k) = lw_act (ws.getD k 0) ∧ M.2.1 175 (i + k) = lw_with (ws.getD k 0)) → (∀ k, k < ws.length → ¬ (130 : Int32) * v1 + v3 ≤ nI (i + k)) →
    ∃ A, (∀ n, xg_231_12 (n + ws.length) M (nI i) (nI s.length) v1 v2 v3 = xg_231_12 n A (nI (i + ws.length)) (nI r.length) v1 v2 v3 ∧ (xq_231_12 n A (nI (i + ws.length)) (nI r.length) v1 v2 v3 → xq_231_12 (n + ws.length) M (nI i) (nI s.length) v1 v2 v3)) ∧ lw_R f A r := by
  intro ws
  induction ws with
  | nil =>
    intro M s r i h _ h1 _ _ _
    rw [lw_run] at h1
    rw [← Option.some.inj h1]
    exact ⟨M, fun n => ⟨rfl, id⟩, h⟩
  | cons w ws ih =>
    intro M s r i h hs h1 hi hw hc
    rw [lw_run] at h1
    simp only [List.length_cons] at hs hi
    cases ho : lw_one f w s with
    | none => rw [ho] at h1; cases h1
    | some t =>
      rw [ho] at h1
      have h1 : lw_run f ws t = some r := h1
      have hl := lw_one_l ho
      have hw0 := hw 0 (by simp only [List.length_cons]; omega)
      obtain ⟨A, a1, a2, a3⟩ := lz_r1 (v2 := v2) h (by omega) ho (i := i) (by omega) hw0.1 hw0.2 (hc 0 (by simp only [List.length_cons]; omega))
      obtain ⟨B, b1, b2⟩ := ih (i := i + 1) a2 (by omega) h1 (by omega)
        (fun k hk => by
          rw [a3 174 _ (by omega), a3 175 _ (by omega)]
          have := hw (k + 1) (by simp only [List.length_cons]; omega)
          rw [show i + 1 + k = i + (k + 1) by omega]
          exact this)
        (fun k hk => by
          rw [show i + 1 + k = i + (k + 1) by omega]
          exact hc (k + 1) (by simp only [List.length_cons]; omega))
      refine ⟨B, fun n => ?_, b2⟩
      obtain ⟨x1, x2⟩ := a1 (n + ws.length)
      obtain ⟨y1, y2⟩ := b1 n
      rw [show i + (w :: ws).length = i + 1 + ws.length by simp only [List.length_cons]; omega, show n + (w :: ws).length = n + ws.length + 1 by simp only [List.length_cons]; omega]
      exact ⟨x1.trans y1, fun g => x2 (y2 g)⟩
/-- the value of words that have one -/
def lw_v (f : Nat → Int32) (ws : List Int32) : Int32 := match lw_run f ws [] with
  | some (v :: _) => v
  | _ => 0
theorem lw_v_wf {f : Nat → Int32} {ws : List Int32} (h : lw_wf ws) : lw_run f ws [] = some [lw_v f ws] := by
  obtain ⟨v, hv⟩ := h f
  unfold lw_v
  rw [hv]
def lw_val (f : Nat → Int32) : List (List Int32 × List Int32) → Int32
  | [] => 0
  | q :: r => if q.1 = [] then lw_v f q.2 else if lw_v f q.1 = 0 then lw_val f r else lw_v f q.2
theorem lw_one_b {f : Nat → Int32} {w : Int32} {s r t : List Int32} (h : lw_one f w s = some r) : lw_one f w (s ++ t) = some (r ++ t) := by
  rcases lw_one_i h with ⟨q0, q1⟩ | ⟨k, q0, q1, q2, q3⟩ | ⟨b, q, q1, q2, q3⟩ | ⟨b, q, q1, q2, q3⟩ | ⟨b, a, q, v, q0, q1, q2, q3, q4, q5, q6⟩
  · unfold lw_one; rw [if_pos q0, q1]; rfl
  · unfold lw_one; rw [if_neg q1, q2, q3]; rfl
  · rw [q3, q2, q1]; unfold lw_one; rw [if_neg (by decide), show lw_nm (-33) = none by decide]; rfl
  · rw [q3, q2, q1]; unfold lw_one; rw [if_neg (by decide), show lw_nm (-126) = none by decide]; simp only [List.cons_append]; rw [if_neg (by decide), if_pos trivial]
  · rw [q6, q4]; unfold lw_one; rw [if_neg q0, q1]; simp only [List.cons_append]; rw [if_neg q2, if_neg q3, q5]; rfl
theorem lw_run_b {f : Nat → Int32} {t : List Int32} : ∀ {ws s r : List Int32}, lw_run f ws s = some r → lw_run f ws (s ++ t) = some (r ++ t) := by
  intro ws
  induction ws with
  | nil =>
    intro s r h
    rw [lw_run] at h ⊢
    rw [Option.some.inj h]
  | cons w ws ih =>
    intro s r h
    rw [lw_run] at h ⊢
    cases ho : lw_one f w s with
    | none => rw [ho] at h; cases h
    | some u =>
      rw [ho] at h
      rw [lw_one_b ho]
      exact ih h
theorem lw_run_app {f : Nat → Int32} : ∀ {a b s : List Int32}, lw_run f (a ++ b) s = (lw_run f a s).bind (lw_run f b) := by
  intro a
  induction a with
  | nil => intro b s; rfl
  | cons w a ih =>
    intro b s
    rw [List.cons_append, lw_run, lw_run]
    cases lw_one f w s with
    | none => rfl
    | some u => exact ih
/-- the reference works words out -/
theorem lw_231 {f : Nat → Int32} {M : ro_Mm} {ws : List Int32} {a : Nat} (hf : ∀ k, k < 6 → M.2.1 179 k = f k) (h : lw_wf ws) (ha : a + ws.length ≤ 130) (hw : ∀ k, k < ws.length → M.2.1 174 (a + k) = lw_act (ws.getD k 0) ∧ M.2.1 175 (a + k) = lw_with (ws.getD k 0)) :
    xf_231 M 0 (nI a) (nI (a + ws.length)) = lw_v f ws ∧ xp_231 M 0 (nI a) (nI (a + ws.length)) := by
  have z : (130 : Int32) * 0 = 0 := by decide
  have z1 : ∀ x : Int32, (130 : Int32) * 0 + x = x := fun x => by rw [z, Int32.zero_add]
  obtain ⟨A, a1, a2⟩ := lw_rs (f := f) (v1 := 0) (v2 := nI a) (v3 := nI (a + ws.length)) ws (M := M) (s := []) (i := a) ⟨trivial, hf⟩ (by simp only [List.length_nil]; omega) (lw_v_wf h) ha hw
    (fun k hk => by rw [z1]; exact nI_ge (by omega) (by omega))
  obtain ⟨m, hm⟩ : ∃ m, lp_N = m + 1 + ws.length := ⟨lp_N - 1 - ws.length, by have := lp_N_eq; omega⟩
  obtain ⟨x1, x2⟩ := a1 (m + 1)
  have e1 : xg_231_12 lp_N M ((130 : Int32) * 0 + nI a) 0 0 (nI a) (nI (a + ws.length)) = (nI (a + ws.length), nI 1, A) := by
    rw [z1, hm]
    refine Eq.trans x1 ?_
    rw [xg_231_12, if_pos (by rw [z1]; exact nI_le (Nat.le_refl _) (by omega))]
    rfl
  refine ⟨?_, ?_⟩
  · unfold xf_231
    rw [e1]
    exact a2.1.1
  · unfold xp_231
    refine ⟨?_, trivial⟩
    rw [z1, hm]
    refine x2 ?_
    rw [xq_231_12]
    have := nI_le (Nat.le_refl (a + ws.length)) (b := a + ws.length) (by omega)
    exact ⟨fun _ => trivial, fun y => absurd (by rw [z1]; exact this) y⟩
end ODDS2

