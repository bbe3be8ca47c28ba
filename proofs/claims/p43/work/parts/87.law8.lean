/-! pair law -/
section LAW8
variable {X : ro_Sx}
theorem all_5 {M : ro_Mm} (h : ro_Inv M) : xp_43 M ∧ xp_211 (xm_43 M) ∧ xf_211 (xm_43 M) = xf_43 M ∧ ro_Inv (xm_211 (xm_43 M)) := by
  obtain ⟨z, q, T, ez, ez2⟩ := lw_tape h
  have hz := (T 130 (Nat.le_refl _)).hz
  -- both, the reference over any memory with this tape
  have BOTH : ∀ C : ro_Mm, C.2.1 163 14 = nI z → (∀ i, i < z → C.2.1 173 i = M.2.1 173 i) → xq_45_2 lp_N (lwA M) 0 ∧ xp_213 (lwB C) ∧ xq_212_31 lp_N (xm_213 (lwB C)) 0 ∧ (xg_45_2 lp_N (lwA M) 0).1 = true ∧ lo z (M.2.1 17) (M.2.1 173) M C (xg_45_2 lp_N (lwA M) 0).2.1 (xg_45_2 lp_N (lwA M) 0).2.2.2 (xg_212_31 lp_N (xm_213 (lwB C)) 0) := fun C c1 c2 => by
    obtain ⟨s1, s2, s3⟩ := lw_S0 (A := M) (B := C) ez (fun _ _ => rfl) c1 c2
    have := ls_loop T (v1 := 0) z 0 0 lp_N lp_N (lwA M) (lwB C) [] (by omega) (lp_hug (by omega)) (lp_hug (by omega)) (Nat.le_refl _) (Nat.le_refl _) (Nat.le_refl _) s1 s2 s3
    rw [nI_0] at this
    exact this
  obtain ⟨u1, u2, u3, u4, u5⟩ := BOTH M ez2 (fun _ _ => rfl)
  have e45 : xf_45 (lwA M) = (xg_45_2 lp_N (lwA M) 0).2.1 := by unfold xf_45; rw [if_pos u4]
  have m45 : xm_45 (lwA M) = (xg_45_2 lp_N (lwA M) 0).2.2.2 := rfl
  have p45 : xp_45 (lwA M) := ⟨u1, trivial⟩
  generalize hA' : (xg_45_2 lp_N (lwA M) 0).2.2.2 = A' at *
  generalize hval : (xg_45_2 lp_N (lwA M) 0).2.1 = val at *
  have e44 : ∀ b, val = b → xf_45 (ro_sI (ro_sI M 16 6 (0 : Int32)) 16 7 (0 : Int32)) = b := fun b e => e45.trans e
  have m44 : xm_45 (ro_sI (ro_sI M 16 6 (0 : Int32)) 16 7 (0 : Int32)) = A' := m45
  have p44 : xp_45 (ro_sI (ro_sI M 16 6 (0 : Int32)) 16 7 (0 : Int32)) := p45
  have fA := u5.1
  -- what stays of the class's memory
  cases val with
  | false =>
    have E := e44 false rfl
    have nf : ¬ (false = true) := by decide
    have m43 : xm_43 M = ro_sI A' 16 5 0 := by unfold xm_43 xm_44; rw [E, if_neg nf, m44]
    have f44 : xf_44 M = A'.2.1 16 6 := by unfold xf_44; rw [E, if_neg nf, m44]
    have p43 : xp_43 M := by
      unfold xp_43 xp_44
      rw [E]
      exact ⟨⟨p44, fun y => absurd y nf, fun _ => trivial⟩, trivial⟩
    have HC : ∀ c j, ¬ (c = 16 ∧ (j = 5 ∨ j = 6 ∨ j = 7)) → c ≠ 18 → (ro_sI A' 16 5 0).2.1 c j = M.2.1 c j := fun c j n1 n2 => by
      rw [ro_rd_s, if_neg (by omega)]; exact fA.2.2 c j (by omega) n2
    obtain ⟨_, v2, v3, _, v5⟩ := BOTH (ro_sI A' 16 5 0) ((HC 163 14 (by omega) (by decide)).trans ez2) (fun i _ => HC 173 i (by omega) (by decide))
    obtain ⟨w1, w2, w3⟩ := v5
    rcases w3 with ⟨x, _⟩ | ⟨_, a', x1, x2, x3, x4⟩
    · exact absurd x nf
    have f43 : xf_43 M = (-100 : Int32) - nI a' := by
      unfold xf_43
      rw [f44, x2, if_pos (nI_pos' (by omega))]
    rw [m43]
    generalize hB' : xg_212_31 lp_N (xm_213 (lwB (ro_sI A' 16 5 0))) 0 = B' at *
    have hlay : ro_lay M := h.1
    -- what comes of it, however it ends
    have FIN : ∀ D : ro_Mm, pg_B B' D → ro_Inv (ro_sI D 163 14 0) := fun D g => by
      have gD := pg_B_t w2 g
      have HD : ∀ c j, ¬ (c = 163 ∧ (j = 14 ∨ 15 ≤ j ∧ j ≤ 18)) → ¬ ((c = 174 ∨ c = 175) ∧ 130 ≤ j) → ¬ (c = 176 ∧ j = 1) → ¬ ((c = 177 ∨ c = 178) ∧ 61 ≤ j) → ¬ (c = 16 ∧ (j = 5 ∨ j = 6 ∨ j = 7)) → c ≠ 18 → (ro_sI D 163 14 0).2.1 c j = M.2.1 c j := fun c j n1 n2 n3 n4 n5 n6 => by
        rw [ro_rd_s, if_neg (by omega), gD.2.2 c j (by omega) n2 n3 n4]; exact HC c j n5 n6
      refine lw_inv h ⟨?_, fun e he => ?_⟩ ?_ (fun c j e hb => ?_) ?_ ?_ ?_
      · show D.1 = _; rw [gD.1]; show A'.1 = _; rw [fA.1]; exact h.1.1
      · show D.2.2.2 _ _ = _
        rw [gD.2.1]; show A'.2.2.2 _ _ = _; rw [fA.2.1]; exact h.1.2 e he
      · show D.2.2.1 = _; rw [gD.2.1]; show A'.2.2.1 = _; rw [fA.2.1]
      · have n : ∀ d i, ro_lv d i = false ∨ lb d i = true → ¬ (c = d ∧ j = i) := by
          rintro d i hd ⟨rfl, rfl⟩
          rcases hd with hd | hd
          · rw [hd] at e; exact Bool.noConfusion e
          · rw [hd] at hb; exact Bool.noConfusion hb
        have n2 : ∀ d, (∀ i, lb d i = true) → c ≠ d := by
          rintro d hd rfl
          rw [hd j] at hb; exact Bool.noConfusion hb
        have q1 := n 163 14 (Or.inr rfl)
        have q2 := n 163 15 (Or.inl rfl)
        have q3 := n 163 16 (Or.inl rfl)
        have q4 := n 163 17 (Or.inl rfl)
        have q5 := n 163 18 (Or.inl rfl)
        have q6 := n2 174 (fun _ => rfl)
        have q7 := n2 175 (fun _ => rfl)
        have q8 := n2 176 (fun _ => rfl)
        have q9 := n2 177 (fun _ => rfl)
        have q10 := n2 178 (fun _ => rfl)
        have q11 := n 16 5 (Or.inr rfl)
        have q12 := n 16 6 (Or.inl rfl)
        have q13 := n 16 7 (Or.inl rfl)
        have q14 : c ≠ 18 := fun e2 => by rw [e2] at e; exact Bool.noConfusion e
        exact HD c j (by omega) (by omega) (by omega) (by omega) (by omega) q14
      · rw [ro_sI_ne (by decide), gD.2.2 16 5 (by omega) (by omega) (by omega) (by omega), ro_rd_s, if_pos ⟨rfl, rfl⟩]
      · rw [ro_rd_s, if_pos ⟨rfl, rfl⟩]
      · obtain ⟨L, l1, l2, l3, l4, l5, l6, l7, l8, l9⟩ := h.2.1.2.2.2.2.2.1
        have hl := lw_len L
        refine ⟨L, l1, l2, ?_, fun k hk => ?_, fun k hk => ⟨?_, ?_⟩, l6, ?_, fun l hk => ⟨?_, ?_⟩, ?_⟩
        · rw [HD 16 8 (by omega) (by omega) (by omega) (by omega) (by omega) (by decide)]; exact l3
        · rw [HD 19 k (by omega) (by omega) (by omega) (by omega) (by omega) (by decide)]; exact l4 k hk
        · rw [HD 174 k (by omega) (by omega) (by omega) (by omega) (by omega) (by decide)]; exact (l5 k hk).1
        · rw [HD 175 k (by omega) (by omega) (by omega) (by omega) (by omega) (by decide)]; exact (l5 k hk).2
        · rw [HD 176 0 (by omega) (by omega) (by omega) (by omega) (by omega) (by decide)]; exact l7
        · rw [HD 177 l (by omega) (by omega) (by omega) (by omega) (by omega) (by decide)]; exact (l8 l hk).1
        · rw [HD 178 l (by omega) (by omega) (by omega) (by omega) (by omega) (by decide)]; exact (l8 l hk).2
        · rw [HD 163 26 (by omega) (by omega) (by omega) (by omega) (by omega) (by decide)]; exact l9
    have hBz : B'.2.1 163 14 = nI z := by rw [w2.2.2 163 14 (by omega) (by omega) (by omega) (by omega)]; exact (HC 163 14 (by omega) (by decide)).trans ez2
    have na : ¬ nI a' < 0 := nI_pos (by omega)
    rcases x4 with x4 | ⟨x4, x5⟩
    · have f0 : 0 ≤ B'.2.1 163 16 := by rw [x4]; exact nI_pos' (by omega)
      have f1 : ¬ B'.2.1 163 16 < 0 := by rw [x4]; exact na
      have e212 : xf_212 (ro_sI A' 16 5 0) 0 = nI a' := by
        unfold xf_212; rw [hB', if_pos f0, if_neg f1, x4]
      have m212 : xm_212 (ro_sI A' 16 5 0) 0 = ro_sI B' 163 14 0 := by
        unfold xm_212; rw [hB', if_pos f0, if_neg f1]
      have p212 : xp_212 (ro_sI A' 16 5 0) 0 := by
        unfold xp_212; rw [hB']
        exact ⟨v2, v3, fun _ => ⟨fun y => absurd y f1, fun _ => trivial⟩, fun y => absurd f0 y⟩
      refine ⟨p43, ⟨p212, trivial⟩, ?_, ?_⟩
      · unfold xf_211; rw [e212, if_neg na, f43]
      · unfold xm_211; rw [e212, if_neg na, m212]; exact FIN B' pg_r
    · have f0 : ¬ 0 ≤ B'.2.1 163 16 := by rw [x4]; decide
      have c1 : ¬ B'.2.1 163 14 ≤ B'.2.1 163 15 := by rw [hBz, x3]; exact nI_ge x5 (by omega)
      have e224 : xm_224 B' = ro_sI B' 163 16 (nI a') := by unfold xm_224; rw [if_neg f0, x3]
      have e16 : (xm_224 B').2.1 163 16 = nI a' := by rw [e224, ro_rd_s, if_pos ⟨rfl, rfl⟩]
      have f1 : ¬ (xm_224 B').2.1 163 16 < 0 := by rw [e16]; exact na
      have g224 : pg_B B' (xm_224 B') := by
        rw [e224]; exact ⟨rfl, rfl, fun c j n1 _ _ _ => by rw [ro_rd_s, if_neg (by omega)]⟩
      have e212 : xf_212 (ro_sI A' 16 5 0) 0 = nI a' := by
        unfold xf_212; rw [hB', if_neg f0, if_neg c1, if_neg f1, e16]
      have m212 : xm_212 (ro_sI A' 16 5 0) 0 = ro_sI (xm_224 B') 163 14 0 := by
        unfold xm_212; rw [hB', if_neg f0, if_neg c1, if_neg f1]
      have p212 : xp_212 (ro_sI A' 16 5 0) 0 := by
        unfold xp_212; rw [hB']
        exact ⟨v2, v3, fun y => absurd y f0, fun _ => ⟨fun y => absurd y c1, fun _ => ⟨fun y => absurd y f1, fun _ => trivial⟩⟩⟩
      refine ⟨p43, ⟨p212, trivial⟩, ?_, ?_⟩
      · unfold xf_211; rw [e212, if_neg na, f43]
      · unfold xm_211; rw [e212, if_neg na, m212]; exact FIN (xm_224 B') g224
  | true =>
    have E := e44 true rfl
    have tt : (true = true) := rfl
    obtain ⟨_, _, w3⟩ := u5
    obtain ⟨_, L1, ln1, lm1, lc1, hS1⟩ := w3.resolve_right (fun x => absurd x.1 (by decide))
    have h7 : A'.2.1 16 7 = nI (lw_codes L1).length := hS1.1.2.2.2
    obtain ⟨k1, k2, k3, k4, k5, k6⟩ := c44 lc1 (v1 := ro_b true) (lw_codes L1).length 0 lp_N (ro_sI A' 16 5 0) (by omega) (lp_hug (by omega)) (by rw [ro_rd_s, if_neg (by omega)]; exact h7)
    rw [nI_0] at k1 k2 k3 k4 k5 k6
    generalize hG : (xg_44_31 lp_N (ro_sI A' 16 5 0) 0 (ro_b true)).2 = G at *
    have hG7 : G.2.1 16 7 = nI (lw_codes L1).length := by rw [k4 16 7 (by decide), ro_rd_s, if_neg (by omega)]; exact h7
    have m43 : xm_43 M = ro_sI G 16 8 (nI (lw_codes L1).length) := by
      unfold xm_43 xm_44; rw [E, if_pos tt, m44, hG, hG7]
    have f43 : xf_43 M = 1 := by
      unfold xf_43 xf_44; rw [E, if_pos tt, if_neg (by decide)]
    have p43 : xp_43 M := by
      unfold xp_43 xp_44
      rw [E, m44]
      exact ⟨⟨p44, fun _ => ⟨k1, trivial⟩, fun y => absurd tt y⟩, trivial⟩
    have HC : ∀ c j, ¬ (c = 16 ∧ (j = 5 ∨ j = 6 ∨ j = 7 ∨ j = 8)) → c ≠ 18 → c ≠ 19 → (ro_sI G 16 8 (nI (lw_codes L1).length)).2.1 c j = M.2.1 c j := fun c j n1 n2 n3 => by
      rw [ro_rd_s, if_neg (by omega), k4 c j n3, ro_rd_s, if_neg (by omega)]; exact fA.2.2 c j (by omega) n2
    obtain ⟨_, v2, v3, _, v5⟩ := BOTH (ro_sI G 16 8 (nI (lw_codes L1).length)) ((HC 163 14 (by omega) (by decide) (by decide)).trans ez2) (fun i _ => HC 173 i (by omega) (by decide) (by decide))
    obtain ⟨w1, w2, w3⟩ := v5
    obtain ⟨_, L, ln, lm, lc, hS⟩ := w3.resolve_right (fun x => absurd x.1 (by decide))
    have hlen : (lw_codes L1).length = (lw_codes L).length := by
      have := h7.symm.trans hS.1.2.2.2
      exact (nI_eq (by omega) (by omega)).mp this
    rw [m43, hlen]
    rw [hlen] at v2 v3 w2 hS HC k6
    generalize hB' : xg_212_31 lp_N (xm_213 (lwB (ro_sI G 16 8 (nI (lw_codes L).length)))) 0 = B' at *
    have cn := lw_cn L
    have hB := hS.2.1
    have f0 : ¬ 0 ≤ B'.2.1 163 16 := by rw [hB.2.2.2.1]; decide
    have f1 : B'.2.1 163 16 < 0 := by rw [hB.2.2.2.1]; decide
    have c1 : B'.2.1 163 14 ≤ B'.2.1 163 15 := by rw [hB.1, hB.2.2.1]; exact nI_le (Nat.le_refl _) (by omega)
    have e18 : B'.2.1 163 18 = nI (lw_steps L).length := ls_18 hB (by omega)
    obtain ⟨a1, a2, a3, a4, a5⟩ := c105 (K := (lw_steps L).length) (by omega) (lw_steps L).length 0 lp_N (ro_sI B' 163 14 0) (by omega) (lp_hug (by omega)) (by rw [ro_rd_s, if_neg (by omega)]; exact e18)
    rw [nI_0] at a1 a2 a3 a4 a5
    generalize hP : (xg_212_105 lp_N (ro_sI B' 163 14 0) 0 0).2 = P at *
    have P176 : P.2.1 176 1 = nI L.length := by rw [a4 176 1 (by omega), ro_sI_ne (by decide)]; exact hS.2.2.2.2.2.1
    obtain ⟨b1, b2, b3, b4, b5⟩ := c177 (K := L.length) lm L.length 0 lp_N (ro_sI P 176 0 (P.2.1 176 1)) (by omega) (lp_hug (by omega)) (by rw [ro_rd_s, if_pos ⟨rfl, rfl⟩]; exact P176)
    rw [nI_0] at b1 b2 b3 b4 b5
    have z0 : (0 : Int32).toNatClampNeg = 0 := rfl
    generalize hR : (xg_212_177 lp_N (ro_sI P 176 0 (P.2.1 176 1)) 0 0).2 = R at *
    have e212 : xf_212 (ro_sI G 16 8 (nI (lw_codes L).length)) 0 = -1 := by
      unfold xf_212; rw [hB', if_neg f0, if_pos c1, if_pos f1]
    have m212 : xm_212 (ro_sI G 16 8 (nI (lw_codes L).length)) 0 = R := by
      unfold xm_212; rw [hB', if_neg f0, if_pos c1, if_pos f1, z0, hP, hR]
    have p212 : xp_212 (ro_sI G 16 8 (nI (lw_codes L).length)) 0 := by
      unfold xp_212; rw [hB', z0, hP]
      exact ⟨v2, v3, fun y => absurd y f0, fun _ => ⟨fun _ => ⟨fun _ => ⟨a1, ro_vn (k := 0) (by omega) (by omega), b1, trivial⟩, fun y => absurd f1 y⟩, fun y => absurd c1 y⟩⟩
    have n1 : (-1 : Int32) < 0 := by decide
    refine ⟨p43, ⟨p212, trivial⟩, ?_, ?_⟩
    · unfold xf_211; rw [e212, if_pos n1, f43]
    · unfold xm_211; rw [e212, if_pos n1, m212]
      -- what is as it was
      have HD : ∀ c j, ¬ (c = 163 ∧ (j = 14 ∨ j = 26 ∨ 15 ≤ j ∧ j ≤ 18)) → c ≠ 174 → c ≠ 175 → c ≠ 176 → c ≠ 177 → c ≠ 178 → ¬ (c = 16 ∧ (j = 5 ∨ j = 6 ∨ j = 7 ∨ j = 8)) → c ≠ 18 → c ≠ 19 → (ro_sI R 163 26 1).2.1 c j = M.2.1 c j := fun c j n1 n2 n3 n4 n5 n6 n7 n8 n9 => by
        rw [ro_rd_s, if_neg (by omega), b4 c j (by omega), ro_rd_s, if_neg (by omega), a4 c j (by omega), ro_rd_s, if_neg (by omega), w2.2.2 c j (by omega) (by omega) (by omega) (by omega)]
        exact HC c j n7 n8 n9
      refine lw_inv h ⟨?_, fun e he => ?_⟩ ?_ (fun c j e hb => ?_) ?_ ?_ ?_
      · show R.1 = _; rw [b2]; show P.1 = _; rw [a2]; show B'.1 = _; rw [w2.1]; show G.1 = _; rw [k2]; show A'.1 = _; rw [fA.1]; exact h.1.1
      · show R.2.2.2 _ _ = _
        rw [b3]; show P.2.2.2 _ _ = _; rw [a3]; show B'.2.2.2 _ _ = _; rw [w2.2.1]; show G.2.2.2 _ _ = _; rw [k3]; show A'.2.2.2 _ _ = _; rw [fA.2.1]; exact h.1.2 e he
      · show R.2.2.1 = _; rw [b3]; show P.2.2.1 = _; rw [a3]; show B'.2.2.1 = _; rw [w2.2.1]; show G.2.2.1 = _; rw [k3]; show A'.2.2.1 = _; rw [fA.2.1]
      · have n : ∀ d i, ro_lv d i = false ∨ lb d i = true → ¬ (c = d ∧ j = i) := by
          rintro d i hd ⟨rfl, rfl⟩
          rcases hd with hd | hd
          · rw [hd] at e; exact Bool.noConfusion e
          · rw [hd] at hb; exact Bool.noConfusion hb
        have n2 : ∀ d, (∀ i, lb d i = true) → c ≠ d := by
          rintro d hd rfl
          rw [hd j] at hb; exact Bool.noConfusion hb
        have q1 := n 163 14 (Or.inr rfl)
        have q1b := n 163 26 (Or.inr rfl)
        have q2 := n 163 15 (Or.inl rfl)
        have q3 := n 163 16 (Or.inl rfl)
        have q4 := n 163 17 (Or.inl rfl)
        have q5 := n 163 18 (Or.inl rfl)
        have q11 := n 16 5 (Or.inr rfl)
        have q11b := n 16 8 (Or.inr rfl)
        have q12 := n 16 6 (Or.inl rfl)
        have q13 := n 16 7 (Or.inl rfl)
        have q14 : c ≠ 18 := fun e2 => by rw [e2] at e; exact Bool.noConfusion e
        exact HD c j (by omega) (n2 174 (fun _ => rfl)) (n2 175 (fun _ => rfl)) (n2 176 (fun _ => rfl)) (n2 177 (fun _ => rfl)) (n2 178 (fun _ => rfl)) (by omega) q14 (n2 19 (fun _ => rfl))
      · rw [ro_sI_ne (by decide), b4 16 5 (by omega), ro_sI_ne (by decide), a4 16 5 (by omega), ro_sI_ne (by decide), w2.2.2 16 5 (by omega) (by omega) (by omega) (by omega), ro_rd_s, if_neg (by omega), k4 16 5 (by decide), ro_rd_s, if_pos ⟨rfl, rfl⟩]
      · rw [ro_rd_s, if_neg (by omega), b4 163 14 (by omega), ro_sI_ne (by decide), a4 163 14 (by omega), ro_rd_s, if_pos ⟨rfl, rfl⟩]
      · obtain ⟨g1, g2, g3, g4, g5, g6, g7⟩ := hS
        refine ⟨L, g3, lc, ?_, fun k hk => ?_, fun k hk => ?_, lm, ?_, fun l hl => ?_, ?_⟩
        · rw [ro_sI_ne (by decide), b4 16 8 (by omega), ro_sI_ne (by decide), a4 16 8 (by omega), ro_sI_ne (by decide), w2.2.2 16 8 (by omega) (by omega) (by omega) (by omega), ro_rd_s, if_pos ⟨rfl, rfl⟩]
        · rw [ro_sI_ne (by decide), b4 19 k (by omega), ro_sI_ne (by decide), a4 19 k (by omega), ro_sI_ne (by decide), w2.2.2 19 k (by omega) (by omega) (by omega) (by omega), ro_sI_ne (by decide), k6 k (Nat.zero_le _) hk, ro_sI_ne (by decide)]
          exact g4 k hk
        · obtain ⟨s1, s2⟩ := a5 k (Nat.zero_le _) hk
          rw [ro_sI_ne (by decide), ro_sI_ne (by decide), b4 174 k (by omega), b4 175 k (by omega), ro_sI_ne (by decide), ro_sI_ne (by decide), s1, s2, ro_sI_ne (by decide), ro_sI_ne (by decide), (g5 k hk).1, (g5 k hk).2, lw_narS g3 hk]
          exact ⟨rfl, rfl⟩
        · rw [ro_sI_ne (by decide), b4 176 0 (by omega), ro_rd_s, if_pos ⟨rfl, rfl⟩]; exact P176
        · obtain ⟨s1, s2⟩ := b5 l (Nat.zero_le _) hl
          obtain ⟨g71, g72⟩ := g7 l hl
          have y1 : (lw_steps (L.take l)).length + (L.getD l ([], [])).1.length ≤ 130 := by
            have hd : L = L.take l ++ (L.getD l ([], [])) :: L.drop (l + 1) := by
              have hg : L.getD l ([], []) = L[l] := by rw [List.getD_eq_getElem?_getD, List.getElem?_eq_getElem hl]; rfl
              rw [hg, List.getElem_cons_drop, List.take_append_drop]
            have e9 := congrArg (fun x => (lw_steps x).length) hd
            rw [lw_steps_a, lw_steps_c, List.length_append, List.length_append, List.length_append] at e9
            omega
          have y2 : (lw_steps (L.take (l + 1))).length ≤ 130 := by
            have e9 := congrArg (fun x => (lw_steps x).length) (List.take_append_drop (l + 1) L)
            rw [lw_steps_a, List.length_append] at e9
            omega
          rw [ro_sI_ne (by decide), ro_sI_ne (by decide), s1, s2, ro_sI_ne (by decide), ro_sI_ne (by decide), a4 177 _ (by omega), a4 178 _ (by omega), ro_sI_ne (by decide), ro_sI_ne (by decide), g71, g72, nar_s2 _ (by omega), nar_s2 _ (by omega)]
          exact ⟨rfl, rfl⟩
        · rw [ro_rd_s, if_pos ⟨rfl, rfl⟩, if_neg ln]
end LAW8

