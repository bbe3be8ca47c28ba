/-! the law at work, on: lines, the odds; pair odds -/
section ODDS3
variable {X : ro_Sx}
theorem gd_l {a b : List Int32} {k : Nat} (h : k < a.length) : (a ++ b).getD k 0 = a.getD k 0 := by
  rw [List.getD_eq_getElem?_getD, List.getD_eq_getElem?_getD, List.getElem?_append_left h]
theorem gd_r {a b : List Int32} {k : Nat} : (a ++ b).getD (a.length + k) 0 = b.getD k 0 := by
  rw [List.getD_eq_getElem?_getD, List.getD_eq_getElem?_getD, List.getElem?_append_right (by omega), Nat.add_sub_cancel_left]
theorem lw_codes_c (q : List Int32 × List Int32) (L : List (List Int32 × List Int32)) : lw_codes (q :: L) = (q.1 ++ q.2) ++ ((if q.1 = [] then -59 else -63) :: lw_codes L) := by
  unfold lw_codes
  rw [List.flatMap_cons]
  simp only [List.append_assoc, List.cons_append, List.nil_append]
theorem lw_steps_c (q : List Int32 × List Int32) (L : List (List Int32 × List Int32)) : lw_steps (q :: L) = (q.1 ++ q.2) ++ lw_steps L := by
  unfold lw_steps
  rw [List.flatMap_cons]
theorem lw_steps_a (A B : List (List Int32 × List Int32)) : lw_steps (A ++ B) = lw_steps A ++ lw_steps B := by
  unfold lw_steps
  rw [List.flatMap_append]
/-- lines in the class -/
theorem lw_cl {f : Nat → Int32} : ∀ (L : List (List Int32 × List Int32)) {M : ro_Mm} {i n : Nat}, lw_C f M [] → (∀ q, q ∈ L → lw_line q) → i + (lw_codes L).length ≤ 121 → M.2.1 16 8 = nI (i + (lw_codes L).length) → (∀ k, k < (lw_codes L).length → M.2.1 19 (i + k) = (lw_codes L).getD k 0) → (lw_codes L).length < n →
    xq_60_7 n M (nI i) ∧ (if (xg_60_7 n M (nI i)).1 = true then (xg_60_7 n M (nI i)).2.1 else 0) = lw_val f L ∧ lw_Cf M (xg_60_7 n M (nI i)).2.2.2 := by
  intro L
  induction L with
  | nil =>
    intro M i n h _ hl hc _ hn
    cases n with
    | zero => omega
    | succ n =>
      have e : (lw_codes []).length = 0 := rfl
      rw [e, Nat.add_zero] at hl hc
      have c : M.2.1 16 8 ≤ nI i := by rw [hc]; exact nI_le (Nat.le_refl _) (by omega)
      rw [xg_60_7, xq_60_7, if_pos c]
      exact ⟨⟨fun _ => trivial, fun y => absurd c y⟩, rfl, lw_Cf_r⟩
  | cons q L ih =>
    intro M i n h hq hl hc hw hn
    have ec := lw_codes_c q L
    have hlen : (lw_codes (q :: L)).length = (q.1 ++ q.2).length + 1 + (lw_codes L).length := by
      rw [ec, List.length_append, List.length_cons]; omega
    rw [hlen] at hl hc hn
    have hline := hq q (List.mem_cons_self ..)
    have hws : ∀ k, k < (q.1 ++ q.2).length → M.2.1 19 (i + k) = (q.1 ++ q.2).getD k 0 := fun k hk => by
      rw [hw k (by omega), ec, gd_l hk]
    have hcc : ∀ k, k < (q.1 ++ q.2).length → ¬ M.2.1 16 8 ≤ nI (i + k) := fun k hk => by
      rw [hc]; exact nI_ge (by omega) (by omega)
    have hrest : ∀ k, k < (lw_codes L).length → M.2.1 19 (i + (q.1 ++ q.2).length + 1 + k) = (lw_codes L).getD k 0 := fun k hk => by
      have := hw ((q.1 ++ q.2).length + (k + 1)) (by omega)
      rw [ec, gd_r, List.getD_cons_succ] at this
      rw [← this, show i + (q.1 ++ q.2).length + 1 + k = i + ((q.1 ++ q.2).length + (k + 1)) by omega]
    have hmid : M.2.1 19 (i + (q.1 ++ q.2).length) = if q.1 = [] then -59 else -63 := by
      have := hw ((q.1 ++ q.2).length + 0) (by omega)
      rw [ec, gd_r, List.getD_cons_zero] at this
      rw [← this]; congr 1
    obtain ⟨m, hm⟩ : ∃ m, n = m + 1 + (q.1 ++ q.2).length := ⟨n - 1 - (q.1 ++ q.2).length, by omega⟩
    have hlq : (q.1 ++ q.2).length = q.1.length + q.2.length := List.length_append
    have e1 : (nI (i + (q.1 ++ q.2).length)).toNatClampNeg = i + (q.1 ++ q.2).length := nI_clamp (by omega)
    have c2 : ¬ (121 : Int32) ≤ nI (i + (q.1 ++ q.2).length) := nI_ge (b := 121) (by omega) (by omega)
    have c3 : vp_in (nI (i + (q.1 ++ q.2).length)) 121 := ro_vn (by omega) (by omega)
    have t59 : (-59 : Int32) = -59 := rfl
    have t63 : (-63 : Int32) = -63 := rfl
    by_cases e : q.1 = []
    · have hr : lw_run f (q.1 ++ q.2) [] = some [lw_v f q.2] := by rw [e, List.nil_append]; exact lw_v_wf hline.2
      obtain ⟨A, a1, a2, a3⟩ := lw_csr (q.1 ++ q.2) h (by simp only [List.length_nil]; omega) hr (i := i) (by omega) hws hcc
      obtain ⟨x1, x2⟩ := a1 (m + 1)
      obtain ⟨p1, p2, p3, p4⟩ := lw_pop a2 (by simp only [List.length_nil]; omega)
      have c1 : ¬ A.2.1 16 8 ≤ nI (i + (q.1 ++ q.2).length) := by
        rw [a3 16 8 (by omega) (by omega), hc]; exact nI_ge (by omega) (by omega)
      have cw : A.2.1 19 (i + (q.1 ++ q.2).length) = -59 := by rw [a3 19 _ (by omega) (by omega), hmid, if_pos e]
      have g : xg_60_7 (m + 1) A (nI (i + (q.1 ++ q.2).length)) = (true, lw_v f q.2, nI (i + (q.1 ++ q.2).length), xm_61 A) := by
        rw [xg_60_7, if_neg c1, if_neg c2, e1, cw, if_pos t59, p1]
      have gq : xq_60_7 (m + 1) A (nI (i + (q.1 ++ q.2).length)) := by
        rw [xq_60_7, e1, cw]
        exact ⟨fun y => absurd y c1, fun _ => ⟨fun y => absurd y c2, fun _ => ⟨c3, fun _ => ⟨p2, trivial⟩, fun y => absurd t59 y⟩⟩⟩
      rw [hm, x1, g]
      refine ⟨x2 gq, ?_, lw_Cf_t a3 p4⟩
      rw [lw_val, if_pos e]; rfl
    · have hw1 : lw_wf q.1 := hline.1.resolve_left e
      have hr : lw_run f (q.1 ++ q.2) [] = some [lw_v f q.2, lw_v f q.1] := by
        rw [lw_run_app, lw_v_wf hw1]
        exact lw_run_b (t := [lw_v f q.1]) (lw_v_wf hline.2)
      obtain ⟨A, a1, a2, a3⟩ := lw_csr (q.1 ++ q.2) h (by simp only [List.length_nil]; omega) hr (i := i) (by omega) hws hcc
      obtain ⟨x1, x2⟩ := a1 (m + 1)
      obtain ⟨p1, p2, p3, p4⟩ := lw_pop a2 (by simp only [List.length_cons, List.length_nil]; omega)
      obtain ⟨r1, r2, r3, r4⟩ := lw_pop p3 (by simp only [List.length_nil]; omega)
      have c1 : ¬ A.2.1 16 8 ≤ nI (i + (q.1 ++ q.2).length) := by
        rw [a3 16 8 (by omega) (by omega), hc]; exact nI_ge (by omega) (by omega)
      have cw : A.2.1 19 (i + (q.1 ++ q.2).length) = -63 := by rw [a3 19 _ (by omega) (by omega), hmid, if_neg e]
      have n1 : ¬ (-63 : Int32) = -59 := by decide
      have F := lw_Cf_t a3 (lw_Cf_t p4 r4)
      by_cases z : lw_v f q.1 = 0
      · have g : xg_60_7 (m + 1) A (nI (i + (q.1 ++ q.2).length)) = xg_60_7 m (xm_61 (xm_61 A)) (nI (i + (q.1 ++ q.2).length + 1)) := by
          rw [xg_60_7, if_neg c1, if_neg c2, e1, cw, if_neg n1, if_pos t63, r1, if_pos z, nI_succ]
        obtain ⟨i1, i2, i3⟩ := ih (M := xm_61 (xm_61 A)) (i := i + (q.1 ++ q.2).length + 1) (n := m) r3 (fun y hy => hq y (List.mem_cons_of_mem _ hy)) (by omega)
          (by rw [F 16 8 (by omega) (by omega), hc]; congr 1; omega)
          (fun k hk => by rw [F 19 _ (by omega) (by omega)]; exact hrest k hk) (by omega)
        have gq : xq_60_7 (m + 1) A (nI (i + (q.1 ++ q.2).length)) := by
          rw [xq_60_7, e1, cw, r1, ← nI_succ]
          exact ⟨fun y => absurd y c1, fun _ => ⟨fun y => absurd y c2, fun _ => ⟨c3, fun y => absurd y n1, fun _ => ⟨fun _ => ⟨p2, r2, fun _ => i1, fun y => absurd z y⟩, fun y => absurd t63 y⟩⟩⟩⟩
        rw [hm, x1, g]
        refine ⟨x2 gq, ?_, lw_Cf_t F i3⟩
        rw [lw_val, if_neg e, if_pos z]; exact i2
      · have g : xg_60_7 (m + 1) A (nI (i + (q.1 ++ q.2).length)) = (true, lw_v f q.2, nI (i + (q.1 ++ q.2).length), xm_61 (xm_61 A)) := by
          rw [xg_60_7, if_neg c1, if_neg c2, e1, cw, if_neg n1, if_pos t63, r1, if_neg z, p1]
        have gq : xq_60_7 (m + 1) A (nI (i + (q.1 ++ q.2).length)) := by
          rw [xq_60_7, e1, cw, r1]
          exact ⟨fun y => absurd y c1, fun _ => ⟨fun y => absurd y c2, fun _ => ⟨c3, fun y => absurd y n1, fun _ => ⟨fun _ => ⟨p2, r2, fun y => absurd y z, fun _ => trivial⟩, fun y => absurd t63 y⟩⟩⟩⟩
        rw [hm, x1, g]
        refine ⟨x2 gq, ?_, F⟩
        rw [lw_val, if_neg e, if_neg z]; rfl
def lw_rows (f : Nat → Int32) (L : List (List Int32 × List Int32)) (M : ro_Mm) : Prop := (∀ k, k < 6 → M.2.1 179 k = f k) ∧ (∀ k, k < (lw_steps L).length → M.2.1 174 k = lw_act ((lw_steps L).getD k 0) ∧ M.2.1 175 k = lw_with ((lw_steps L).getD k 0)) ∧
  M.2.1 176 0 = nI L.length ∧ (∀ l, l < L.length → M.2.1 177 l = nI ((lw_steps (L.take l)).length + (L.getD l ([], [])).1.length) ∧ M.2.1 178 l = nI (lw_steps (L.take (l + 1))).length)
theorem lw_rows_c {f : Nat → Int32} {L : List (List Int32 × List Int32)} {M A : ro_Mm} (h : ∀ c j, c ≠ 180 → A.2.1 c j = M.2.1 c j) (g : lw_rows f L M) : lw_rows f L A := by
  obtain ⟨g1, g2, g3, g4⟩ := g
  refine ⟨fun k hk => ?_, fun k hk => ?_, ?_, fun l hl => ?_⟩
  · rw [h 179 _ (by omega)]; exact g1 k hk
  · rw [h 174 _ (by omega), h 175 _ (by omega)]; exact g2 k hk
  · rw [h 176 _ (by omega)]; exact g3
  · rw [h 177 _ (by omega), h 178 _ (by omega)]; exact g4 l hl
/-- lines in the reference -/
theorem lw_rl {f : Nat → Int32} {L : List (List Int32 × List Int32)} (hq : ∀ q, q ∈ L → lw_line q) (hl : (lw_codes L).length ≤ 121) (h61 : L.length ≤ 61) : ∀ (B A : List (List Int32 × List Int32)) {M : ro_Mm} {n : Nat}, L = A ++ B → lw_rows f L M → B.length < n →
    xq_230_7 n M (nI A.length) (nI (lw_steps A).length) 0 ∧ (if (xg_230_7 n M (nI A.length) (nI (lw_steps A).length) 0).1 = true then (xg_230_7 n M (nI A.length) (nI (lw_steps A).length) 0).2.1 else 0) = lw_val f B := by
  have z61 : ∀ x : Int32, (61 : Int32) * 0 + x = x := fun x => by rw [show (61 : Int32) * 0 = 0 by decide, Int32.zero_add]
  have z0 : (0 : Int32).toNatClampNeg = 0 := by decide
  have vz : vp_in (0 : Int32) 2 := by unfold vp_in; decide
  intro B
  induction B with
  | nil =>
    intro A M n hL hR hn
    cases n with
    | zero => omega
    | succ n =>
      have hLA : L.length = A.length := by rw [hL, List.append_nil]
      have c : (61 : Int32) * 0 + M.2.1 176 (0 : Int32).toNatClampNeg ≤ nI A.length := by
        rw [z61, z0, hR.2.2.1, hLA]; exact nI_le (Nat.le_refl _) (by omega)
      rw [xg_230_7, xq_230_7, if_pos c]
      exact ⟨⟨vz, fun _ => trivial, fun y => absurd c y⟩, rfl⟩
  | cons q B ih =>
    intro A M n hL hR hn
    cases n with
    | zero => omega
    | succ n =>
      have hlen : L.length = A.length + 1 + B.length := by rw [hL, List.length_append, List.length_cons]; omega
      have hst : lw_steps L = lw_steps A ++ ((q.1 ++ q.2) ++ lw_steps B) := by rw [hL, lw_steps_a, lw_steps_c]
      have hsl : (lw_steps L).length = (lw_steps A).length + (q.1.length + q.2.length) + (lw_steps B).length := by
        rw [hst, List.length_append, List.length_append, List.length_append]; omega
      have hle := lw_len L
      have c : ¬ (61 : Int32) * 0 + M.2.1 176 (0 : Int32).toNatClampNeg ≤ nI A.length := by
        rw [z61, z0, hR.2.2.1]; exact nI_ge (by omega) (by omega)
      have e1 : (nI A.length).toNatClampNeg = A.length := nI_clamp (by omega)
      have v0 : vp_in (nI A.length) 122 := ro_vn (by omega) (by omega)
      obtain ⟨t1, t2⟩ := hR.2.2.2 A.length (by omega)
      have k1 : L.take A.length = A := by rw [hL]; exact List.take_left
      have k2 : L.getD A.length ([], []) = q := by
        rw [hL, List.getD_eq_getElem?_getD, List.getElem?_append_right (Nat.le_refl _), Nat.sub_self]; rfl
      have k3 : L.take (A.length + 1) = A ++ [q] := by
        rw [hL, List.take_append, List.take_of_length_le (by omega), Nat.add_sub_cancel_left]; rfl
      rw [k1, k2] at t1
      have k4 : (lw_steps (A ++ [q])).length = (lw_steps A).length + q.1.length + q.2.length := by
        rw [lw_steps_a, lw_steps_c, List.length_append, List.length_append, List.length_append]
        have : (lw_steps []).length = 0 := rfl
        omega
      rw [k3] at t2
      have t3 := t2
      rw [k4] at t3
      have hline := hq q (by rw [hL]; exact List.mem_append_right _ (List.mem_cons_self ..))
      have w1 : ∀ k, k < q.1.length → (lw_steps L).getD ((lw_steps A).length + k) 0 = q.1.getD k 0 := fun k hk => by
        rw [hst, gd_r, gd_l (by rw [List.length_append]; omega), gd_l hk]
      have w2 : ∀ k, k < q.2.length → (lw_steps L).getD ((lw_steps A).length + q.1.length + k) 0 = q.2.getD k 0 := fun k hk => by
        rw [hst, Nat.add_assoc, gd_r, gd_l (by rw [List.length_append]; omega), gd_r]
      have F2 : ∀ {D : ro_Mm}, lw_rows f L D → xf_231 D 0 (nI ((lw_steps A).length + q.1.length)) (nI ((lw_steps A).length + q.1.length + q.2.length)) = lw_v f q.2 ∧ xp_231 D 0 (nI ((lw_steps A).length + q.1.length)) (nI ((lw_steps A).length + q.1.length + q.2.length)) := fun hD =>
        lw_231 hD.1 hline.2 (by omega) (fun k hk => by
          have := hD.2.1 ((lw_steps A).length + q.1.length + k) (by omega)
          rw [w2 k hk] at this
          exact this)
      by_cases e : q.1 = []
      · have e0 : q.1.length = 0 := by rw [e]; rfl
        have ce : M.2.1 177 A.length = nI (lw_steps A).length := by rw [t1, e0, Nat.add_zero]
        obtain ⟨u1, u2⟩ := F2 hR
        rw [e0, Nat.add_zero] at u1 u2
        rw [e0, Nat.add_zero] at t3
        rw [xg_230_7, xq_230_7, if_neg c, e1, if_pos ce, ce, t3, u1]
        refine ⟨⟨vz, fun y => absurd y c, fun _ => ⟨v0, fun _ => ⟨v0, v0, u2, trivial⟩, fun y => absurd rfl y⟩⟩, ?_⟩
        rw [lw_val, if_pos e]; rfl
      · have e0 : 0 < q.1.length := by
          cases hq1 : q.1 with
          | nil => exact absurd hq1 e
          | cons _ _ => exact Nat.succ_pos _
        have ce : ¬ nI ((lw_steps A).length + q.1.length) = nI (lw_steps A).length := by
          intro y
          have := (nI_eq (by omega) (by omega)).mp y
          omega
        have hw1 : lw_wf q.1 := hline.1.resolve_left e
        obtain ⟨u1, u2⟩ := lw_231 (f := f) hR.1 hw1 (a := (lw_steps A).length) (by omega) (fun k hk => by
          have := hR.2.1 ((lw_steps A).length + k) (by omega)
          rw [w1 k hk] at this
          exact this)
        have hR2 : lw_rows f L (xm_231 M 0 (nI (lw_steps A).length) (nI ((lw_steps A).length + q.1.length))) := lw_rows_c (fun c j hc => xwI_231 hc) hR
        obtain ⟨u3, u4⟩ := F2 hR2
        by_cases z : lw_v f q.1 = 0
        · obtain ⟨i1, i2⟩ := ih (A ++ [q]) (n := n) (by rw [hL]; simp only [List.append_assoc, List.cons_append, List.nil_append]) hR2 (by simp only [List.length_cons] at hn; omega)
          rw [List.length_append, List.length_cons, List.length_nil, k4] at i1 i2
          rw [xg_230_7, xq_230_7, if_neg c, e1, t1, if_neg ce, u1, if_pos z, t3, ← nI_succ]
          refine ⟨⟨vz, fun y => absurd y c, fun _ => ⟨v0, fun y => absurd y ce, fun _ => ⟨v0, u2, fun _ => ⟨v0, i1⟩, fun y => absurd z y⟩⟩⟩, ?_⟩
          rw [lw_val, if_neg e, if_pos z]; exact i2
        · rw [xg_230_7, xq_230_7, if_neg c, e1, t1, if_neg ce, u1, if_neg z, t3, u3]
          refine ⟨⟨vz, fun y => absurd y c, fun _ => ⟨v0, fun y => absurd y ce, fun _ => ⟨v0, u2, fun y => absurd y z, fun _ => ⟨v0, v0, u4, trivial⟩⟩⟩⟩, ?_⟩
          rw [lw_val, if_neg e, if_neg z]; rfl
end ODDS3

