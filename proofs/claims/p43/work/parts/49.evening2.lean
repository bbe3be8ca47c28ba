/-! evenings in thought, on: pairs later, evening -/
section EVENING2
variable {X : ro_Sx}
theorem ev_loop {M : ro_Mm} (h : ro_Inv M) {od : Nat → Nat → Int32 → Int32 → Int32} (hod : od_is M od) {p : Nat} (hp : p ≤ 6) (e1 : M.2.1 5 4 = nI p) {f : Nat → Int32} {len z : Nat} {v v2 : Int32} {n0 : Nat} (hn0 : n0 ≤ 20) (hl : ev_len M f z len) (hb : ∀ k, k < z → xf_238 M v (nI k) = f k ∧ xp_238 M v (nI k)) : ∀ (d k n n2 : Nat) (A B : ro_Mm), k + d = min n0 len → d < n → d < n2 → ev_S M p f len A B →
    xq_67_39 n A (nI k) (nI n0) ∧ xq_236_30 n2 B (nI k) (nI (min n0 len)) v v2 ∧ ev_S M p f len (xg_67_39 n A (nI k) (nI n0)).2 (xg_236_30 n2 B (nI k) (nI (min n0 len)) v v2).2 := by
  obtain ⟨l1, l2, l3, l4⟩ := hl
  intro d
  induction d with
  | zero =>
    intro k n n2 A B hk hn hn2 hS
    cases n with
    | zero => omega
    | succ n =>
      cases n2 with
      | zero => omega
      | succ n2 =>
        have c9 : nI (min n0 len) ≤ nI k := nI_le (by omega) (by omega)
        have eB : xg_236_30 (n2 + 1) B (nI k) (nI (min n0 len)) v v2 = (nI k, B) := by rw [xg_236_30, if_pos c9]
        have qB : xq_236_30 (n2 + 1) B (nI k) (nI (min n0 len)) v v2 := by rw [xq_236_30]; exact ⟨fun _ => trivial, fun y => absurd c9 y⟩
        rw [eB]
        by_cases c : n0 ≤ k
        · have c0 : nI n0 ≤ nI k := nI_le c (by omega)
          rw [xg_67_39, xq_67_39, if_pos c0]
          exact ⟨⟨fun _ => trivial, fun y => absurd c0 y⟩, qB, hS⟩
        · have c0 : ¬ nI n0 ≤ nI k := nI_ge (by omega) (by omega)
          have c1 : A.2.1 35 6 ≤ nI k := by rw [hS.2.2.1]; exact nI_le (by omega) (by omega)
          rw [xg_67_39, xq_67_39, if_neg c0, if_pos c1]
          exact ⟨⟨fun y => absurd y c0, fun _ => ⟨fun _ => trivial, fun y => absurd c1 y⟩⟩, qB, hS⟩
  | succ d ih =>
    intro k n n2 A B hk hn hn2 hS
    cases n with
    | zero => omega
    | succ n =>
      cases n2 with
      | zero => omega
      | succ n2 =>
        have c0 : ¬ nI n0 ≤ nI k := nI_ge (by omega) (by omega)
        have c9 : ¬ nI (min n0 len) ≤ nI k := nI_ge (by omega) (by omega)
        obtain ⟨A2, B2, t1, t2, t3⟩ := ev_step h hod hp e1 l1 hS (k := k) (by omega) (l3 k (by omega)) (hb k (by omega)) c0 c9 (v2 := v2)
        obtain ⟨a1, a2⟩ := t2 n
        obtain ⟨b1, b2⟩ := t3 n2
        obtain ⟨i1, i2, i3⟩ := ih (k + 1) n n2 A2 B2 (by omega) (by omega) (by omega) t1
        rw [a1, b1]
        exact ⟨a2 i1, b2 i2, i3⟩
/-- the class reads and plays, the reference goes through it -/
theorem ev_all {M : ro_Mm} (h : ro_Inv M) {v1 : Int32} {n0 : Nat} (hv : ro_bs v1 = true) (hn0 : n0 ≤ 20) (hy : xf_22 M (ro_sc v1) = true) {p : Nat} (hp : p ≤ 6) (e1 : M.2.1 5 4 = nI p) (e2 : M.2.1 163 1 = nI p) :
    xp_66 M (ro_sc v1) ∧ xp_67 (xm_66 M (ro_sc v1)) (nI n0) ∧ ro_eqv M (xm_67 (xm_66 M (ro_sc v1)) (nI n0)) ∧
    xp_236 (xm_67 (xm_66 M (ro_sc v1)) (nI n0)) v1 (nI n0) ∧ ∃ f len, ev_S M p f len (xm_67 (xm_66 M (ro_sc v1)) (nI n0)) (xm_236 (xm_67 (xm_66 M (ro_sc v1)) (nI n0)) v1 (nI n0)) := by
  obtain ⟨od, hod⟩ := od_ex h
  obtain ⟨f, z, len, hz, e191, hb, hl, r1, r2, r3, r4, r5⟩ := ev_read h hv hy
  obtain ⟨s1, s2, s3⟩ := ro_sx hv
  have e18 : xf_18 (xm_66 M (ro_sc v1)) = nI p := by show (xm_66 M (ro_sc v1)).2.1 5 4 = nI p; rw [r2.2.1 5 4 rfl]; exact e1
  obtain ⟨c1, c2, c3⟩ := pu_68 (M := M) r2 (c := 36) (p := p) (by unfold ro_ip; decide) (by decide) hp
  have E1 : ro_eqv M (xm_68 (xm_66 M (ro_sc v1)) 36 6 (nI p)) := pu_fr_e (Or.inl rfl) r2 c3
  have A0 : ro_eqv M (ro_sI (ro_sI (ro_sI (xm_68 (xm_66 M (ro_sc v1)) 36 6 (nI p)) 35 7 0) 35 8 (-2)) 35 9 0) := ro_eqv_s (ro_eqv_s (ro_eqv_s E1 rfl) rfl) rfl
  -- the reference's start, over any memory that agrees
  have BS : ∀ C : ro_Mm, ro_eqv M C → xp_228 C ∧ ro_eqv M (ro_sI (ro_sI (ro_sI (xm_228 C) 163 29 0) 163 30 (-2)) 163 31 0) ∧ pu_at p (ro_sI (ro_sI (ro_sI (xm_228 C) 163 29 0) 163 30 (-2)) 163 31 0) 180 (pu_now M) := fun C hC => by
    obtain ⟨b1, b2, b3⟩ := pu_228 h hC hp e2
    exact ⟨b1, ro_eqv_s (ro_eqv_s (ro_eqv_s (pu_fr_e (Or.inr (Or.inr (Or.inr rfl))) hC b3) ro_lv163.1) ro_lv163.2.1) ro_lv163.2.2, pu_at_c b2 (fun y _ => ⟨by rw [ro_sI_ne (by decide), ro_sI_ne (by decide), ro_sI_ne (by decide)], by rw [ro_sI_ne (by decide), ro_sI_ne (by decide), ro_sI_ne (by decide)]⟩)⟩
  have SS : ∀ C : ro_Mm, ro_eqv M C → ev_S M p f len (ro_sI (ro_sI (ro_sI (xm_68 (xm_66 M (ro_sc v1)) 36 6 (nI p)) 35 7 0) 35 8 (-2)) 35 9 0) (ro_sI (ro_sI (ro_sI (xm_228 C) 163 29 0) 163 30 (-2)) 163 31 0) := fun C hC => by
    obtain ⟨b1, b2, b3⟩ := BS C hC
    refine ⟨A0, b2, ?_, ?_, ⟨pu_now M, pu_at_c c2 (fun y _ => ⟨?_, ?_⟩), b3⟩, ?_, ?_, ?_, ?_⟩
    · rw [ro_rd_s, if_neg (by omega), ro_rd_s, if_neg (by omega), ro_rd_s, if_neg (by omega), c3.2.2 35 6 (by decide) (by decide)]; exact r4
    · intro y hy
      simp only [ro_sI_ne (show (39 : Nat) ≠ 35 by decide), ro_sI_ne (show (40 : Nat) ≠ 35 by decide), ro_sI_ne (show (41 : Nat) ≠ 35 by decide)]
      rw [c3.2.2 39 y (by decide) (by decide), c3.2.2 40 y (by decide) (by decide), c3.2.2 41 y (by decide) (by decide)]
      exact r5 y hy
    · rw [ro_sI_ne (by decide), ro_sI_ne (by decide), ro_sI_ne (by decide)]
    · rw [ro_sI_ne (by decide), ro_sI_ne (by decide), ro_sI_ne (by decide)]
    · simp only [ro_rd_s]; rfl
    · simp only [ro_rd_s]; rfl
    · exact Or.inl (by simp only [ro_rd_s]; rfl)
    · simp only [ro_rd_s]; rfl
  have hlen : len ≤ 20 := hl.1
  have L0 : xp_67 (xm_66 M (ro_sc v1)) (nI n0) := by
    obtain ⟨b1, b2, b3⟩ := ev_loop h hod hp e1 hn0 hl hb (v2 := 0) (min n0 len) 0 lp_N lp_N _ _ (by omega) (lp_hug (by omega)) (lp_hug (by omega)) (SS M (ro_eqv_r h.1))
    unfold xp_67
    rw [e18]
    exact ⟨c1, b1, trivial⟩
  have m67 : xm_67 (xm_66 M (ro_sc v1)) (nI n0) = (xg_67_39 lp_N (ro_sI (ro_sI (ro_sI (xm_68 (xm_66 M (ro_sc v1)) 36 6 (nI p)) 35 7 0) 35 8 (-2)) 35 9 0) 0 (nI n0)).2 := by
    unfold xm_67
    rw [e18]
  have E2 : ro_eqv M (xm_67 (xm_66 M (ro_sc v1)) (nI n0)) := by
    obtain ⟨b1, b2, b3⟩ := ev_loop h hod hp e1 hn0 hl hb (v2 := 0) (min n0 len) 0 lp_N lp_N _ _ (by omega) (lp_hug (by omega)) (lp_hug (by omega)) (SS M (ro_eqv_r h.1))
    rw [m67]
    exact b3.1
  obtain ⟨b1, b2, b3⟩ := ev_loop h hod hp e1 hn0 hl hb (v2 := nI n0) (min n0 len) 0 lp_N lp_N _ _ (by omega) (lp_hug (by omega)) (lp_hug (by omega)) (SS _ E2)
  obtain ⟨u1, u2, u3⟩ := BS _ E2
  obtain ⟨w1, w2⟩ := ev_237 h u2 s1 hz e191 hb hl hn0 20 0 lp_N (by omega) (by omega) (lp_hug (by omega))
  have w3 : xf_237 (ro_sI (ro_sI (ro_sI (xm_228 (xm_67 (xm_66 M (ro_sc v1)) (nI n0))) 163 29 0) 163 30 (-2)) 163 31 0) v1 (nI n0) = nI (min n0 len) := w1
  refine ⟨r1, L0, E2, ?_, f, len, ?_⟩
  · unfold xp_236
    rw [w3]
    exact ⟨u1, ⟨w2, trivial⟩, b2, trivial⟩
  · have m236 : xm_236 (xm_67 (xm_66 M (ro_sc v1)) (nI n0)) v1 (nI n0) = (xg_236_30 lp_N (ro_sI (ro_sI (ro_sI (xm_228 (xm_67 (xm_66 M (ro_sc v1)) (nI n0))) 163 29 0) 163 30 (-2)) 163 31 0) 0 (nI (min n0 len)) v1 (nI n0)).2 := by
      unfold xm_236
      rw [w3]
    rw [m236]
    rw [nI_0, ← m67] at b3
    exact b3
theorem ro_20 {v : Int32} (h : 0 ≤ v ∧ v ≤ 20) : ∃ n, n ≤ 20 ∧ v = nI n := by
  obtain ⟨j, hj, e⟩ := nI_of2 (x := v) (M := 20) (n := 20) (by decide) (Int32.not_lt.mpr h.1) h.2
  exact ⟨j, hj, e⟩
theorem all_8 {M : ro_Mm} (h : ro_Inv M) {v1 v2 v3 : Int32} : xp_79 M v1 v2 v3 ∧ xp_246 (xm_79 M v1 v2 v3) v1 v2 v3 ∧ xf_246 (xm_79 M v1 v2 v3) v1 v2 v3 = xf_79 M v1 v2 v3 ∧ ro_eqv M (xm_246 (xm_79 M v1 v2 v3) v1 v2 v3) := by
  obtain ⟨p, hp, e1, e2⟩ := ro_ppl h
  by_cases b1 : ro_bs v1 = true
  · have f1 : ∀ A : ro_Mm, xf_198 A v1 = true := fun A => by rw [ro_w198]; exact b1
    by_cases b2 : xf_13 M v2 0 20 = true
    · have f2 : ∀ A : ro_Mm, xf_234 A v2 = true := fun A => by unfold xf_234; rw [ro_w195]; exact ro_w13.mp b2
      by_cases b3 : xf_13 M v3 0 2 = true
      · have f3 : ∀ A : ro_Mm, xf_195 A v3 0 2 = true := fun A => by rw [ro_w195]; exact ro_w13.mp b3
        by_cases y1 : xf_22 M (ro_sc v1) = true
        · obtain ⟨n0, hn0, en⟩ := ro_20 (ro_w13.mp b2)
          obtain ⟨a1, a2, a3, a4, f, len, a5⟩ := ev_all h b1 hn0 y1 hp e1 e2
          rw [← en] at a2 a3 a4 a5
          have hm : xm_79 M v1 v2 v3 = xm_67 (xm_66 M (ro_sc v1)) v2 := by unfold xm_79; rw [if_pos b1, if_pos b2, if_pos b3, if_pos y1]
          have hI := ro_eqv_i a3 h
          obtain ⟨g0, _⟩ := by_yes h b1 y1
          have g1 : xf_235 (xm_67 (xm_66 M (ro_sc v1)) v2) v1 = 0 := by rw [← g0]; unfold xf_235; rw [a3.2.1 190 _ rfl]
          have g2 : (0 : Int32) ≤ xf_235 (xm_67 (xm_66 M (ro_sc v1)) v2) v1 := by rw [g1]; decide
          rw [hm]
          obtain ⟨s1, s2, s3, s4, s5, s7, s8, s9, s10⟩ := a5
          refine ⟨?_, ?_, ?_, ?_⟩
          · unfold xp_79
            exact ⟨fun _ => ⟨fun _ => ⟨fun _ => ⟨fun _ => ⟨a1, a2, trivial⟩, fun y => absurd y1 y⟩, fun y => absurd b3 y⟩, fun y => absurd b2 y⟩, fun y => absurd b1 y⟩
          · unfold xp_246
            exact ⟨fun _ => ⟨fun _ => ⟨fun _ => ⟨xp_235_t b1, fun _ => ⟨a4, trivial⟩, fun y => absurd g2 y⟩, fun y => absurd (f3 _) y⟩, fun y => absurd (f2 _) y⟩, fun y => absurd (f1 _) y⟩
          · unfold xf_246 xf_79 xf_80 xf_81 xf_82
            rw [if_pos (f1 _), if_pos (f2 _), if_pos (f3 _), if_pos g2, if_pos b1, if_pos b2, if_pos b3, if_pos y1, s7, s8, s10]
          · unfold xm_246
            rw [if_pos (f1 _), if_pos (f2 _), if_pos (f3 _), if_pos g2]
            exact s2
        · have hm : xm_79 M v1 v2 v3 = M := by unfold xm_79; rw [if_pos b1, if_pos b2, if_pos b3, if_neg y1]
          obtain ⟨g0, g1⟩ := by_no h b1 y1
          have n0 : ¬ (0 : Int32) ≤ xf_235 M v1 := Int32.not_le.mpr g0
          rw [hm]
          refine ⟨⟨fun _ => ⟨fun _ => ⟨fun _ => ⟨fun y => absurd y y1, fun _ => trivial⟩, fun y => absurd b3 y⟩, fun y => absurd b2 y⟩, fun y => absurd b1 y⟩, ?_, ?_, ?_⟩
          · unfold xp_246
            exact ⟨fun _ => ⟨fun _ => ⟨fun _ => ⟨xp_235_t b1, fun y => absurd y n0, fun _ => ⟨xp_235_t b1, trivial⟩⟩, fun y => absurd (f3 _) y⟩, fun y => absurd (f2 _) y⟩, fun y => absurd (f1 _) y⟩
          · unfold xf_246 xf_79
            rw [if_pos (f1 _), if_pos (f2 _), if_pos (f3 _), if_neg n0, if_pos b1, if_pos b2, if_pos b3, if_neg y1, g1]
          · unfold xm_246
            rw [if_pos (f1 _), if_pos (f2 _), if_pos (f3 _), if_neg n0]
            exact ro_eqv_r h.1
      · have hm : xm_79 M v1 v2 v3 = M := by unfold xm_79; rw [if_pos b1, if_pos b2, if_neg b3]
        have f3 : ¬ xf_195 M v3 0 2 = true := by rw [← ro_w13_195]; exact b3
        rw [hm]
        refine ⟨⟨fun _ => ⟨fun _ => ⟨fun y => absurd y b3, fun _ => trivial⟩, fun y => absurd b2 y⟩, fun y => absurd b1 y⟩, ⟨fun _ => ⟨fun _ => ⟨fun y => absurd y f3, fun _ => trivial⟩, fun _ => trivial⟩, fun _ => trivial⟩, ?_, ?_⟩
        · unfold xf_246 xf_79
          rw [if_pos (f1 _), if_pos (f2 _), if_neg f3, if_pos b1, if_pos b2, if_neg b3]
        · unfold xm_246
          rw [if_pos (f1 _), if_pos (f2 _), if_neg f3]
          exact ro_eqv_r h.1
    · have hm : xm_79 M v1 v2 v3 = M := by unfold xm_79; rw [if_pos b1, if_neg b2]
      have f2 : ¬ xf_234 M v2 = true := by unfold xf_234; rw [← ro_w13_195]; exact b2
      rw [hm]
      refine ⟨⟨fun _ => ⟨fun y => absurd y b2, fun _ => trivial⟩, fun y => absurd b1 y⟩, ⟨fun _ => ⟨fun y => absurd y f2, fun _ => trivial⟩, fun _ => trivial⟩, ?_, ?_⟩
      · unfold xf_246 xf_79
        rw [if_pos (f1 _), if_neg f2, if_pos b1, if_neg b2]
      · unfold xm_246
        rw [if_pos (f1 _), if_neg f2]
        exact ro_eqv_r h.1
  · have hm : xm_79 M v1 v2 v3 = M := by unfold xm_79; rw [if_neg b1]
    have f1 : ¬ xf_198 M v1 = true := by rw [ro_w198]; exact b1
    rw [hm]
    refine ⟨⟨fun y => absurd y b1, fun _ => trivial⟩, ⟨fun y => absurd y f1, fun _ => trivial⟩, ?_, ?_⟩
    · unfold xf_246 xf_79
      rw [if_neg f1, if_neg b1]
    · unfold xm_246
      rw [if_neg f1]
      exact ro_eqv_r h.1
theorem all_7 {M : ro_Mm} (h : ro_Inv M) {v1 v2 v3 v4 : Int32} : xp_64 M v1 v2 v3 v4 ∧ xp_233 (xm_64 M v1 v2 v3 v4) v1 v2 v3 v4 ∧ xf_233 (xm_64 M v1 v2 v3 v4) v1 v2 v3 v4 = xf_64 M v1 v2 v3 v4 ∧ ro_eqv M (xm_233 (xm_64 M v1 v2 v3 v4) v1 v2 v3 v4) := by
  obtain ⟨p, hp, e1, e2⟩ := ro_ppl h
  by_cases b1 : ro_bs v1 = true
  · have f1 : ∀ A : ro_Mm, xf_198 A v1 = true := fun A => by rw [ro_w198]; exact b1
    by_cases b2 : xf_13 M v2 0 20 = true
    · have f2 : ∀ A : ro_Mm, xf_234 A v2 = true := fun A => by unfold xf_234; rw [ro_w195]; exact ro_w13.mp b2
      by_cases b5 : xf_29 M v3 = true
      · have f5 : ∀ A : ro_Mm, ro_eqv M A → xf_204 A v3 = true := fun A hA => by
          rw [ro_one_b (ro_eqv_i hA h)]
          unfold xf_29 at b5 ⊢
          rw [hA.2.1 5 4 rfl]; exact b5
        by_cases b3 : xf_13 M v4 0 2 = true
        · have f3 : ∀ A : ro_Mm, xf_195 A v4 0 2 = true := fun A => by rw [ro_w195]; exact ro_w13.mp b3
          by_cases y1 : xf_22 M (ro_sc v1) = true
          · obtain ⟨n0, hn0, en⟩ := ro_20 (ro_w13.mp b2)
            obtain ⟨a1, a2, a3, a4, f, len, a5⟩ := ev_all h b1 hn0 y1 hp e1 e2
            rw [← en] at a2 a3 a4 a5
            have hm : xm_64 M v1 v2 v3 v4 = xm_67 (xm_66 M (ro_sc v1)) v2 := by unfold xm_64; rw [if_pos b1, if_pos b2, if_pos b5, if_pos b3, if_pos y1]
            obtain ⟨g0, _⟩ := by_yes h b1 y1
            have g1 : xf_235 (xm_67 (xm_66 M (ro_sc v1)) v2) v1 = 0 := by rw [← g0]; unfold xf_235; rw [a3.2.1 190 _ rfl]
            have g2 : (0 : Int32) ≤ xf_235 (xm_67 (xm_66 M (ro_sc v1)) v2) v1 := by rw [g1]; decide
            rw [hm]
            obtain ⟨s1, s2, s3, s4, ⟨S, s5, s6⟩, s7, s8, s9, s10⟩ := a5
            obtain ⟨q, hq, eq⟩ := ro_one_i hp e1 b5
            obtain ⟨n1, n2, n3, n4⟩ := ro_n6 (k := q) (by omega)
            have v6 : vp_in v3 6 := by rw [eq]; exact n4
            refine ⟨?_, ?_, ?_, ?_⟩
            · unfold xp_64
              exact ⟨fun _ => ⟨fun _ => ⟨fun _ => ⟨fun _ => ⟨fun _ => ⟨a1, a2, trivial⟩, fun y => absurd y1 y⟩, fun y => absurd b3 y⟩, fun y => absurd b5 y⟩, fun y => absurd b2 y⟩, fun y => absurd b1 y⟩
            · unfold xp_233
              exact ⟨fun _ => ⟨fun _ => ⟨fun _ => ⟨fun _ => ⟨xp_235_t b1, fun _ => ⟨a4, fun _ => ⟨v6, trivial⟩, fun _ => ⟨fun _ => ⟨v6, trivial⟩, fun _ => ⟨v6, v6, trivial⟩⟩⟩, fun y => absurd g2 y⟩, fun y => absurd (f3 _) y⟩, fun y => absurd (f5 _ a3) y⟩, fun y => absurd (f2 _) y⟩, fun y => absurd (f1 _) y⟩
            · unfold xf_233 xf_64 xf_37 xf_38
              rw [if_pos (f1 _), if_pos (f2 _), if_pos (f5 _ a3), if_pos (f3 _), if_pos g2, if_pos b1, if_pos b2, if_pos b5, if_pos b3, if_pos y1, eq, x31 (by omega), x32 (by omega), n3]
              have t1 : (xm_67 (xm_66 M (ro_sc v1)) v2).2.1 (36 + 1) q = (xm_236 (xm_67 (xm_66 M (ro_sc v1)) v2) v1 v2).2.1 181 q := (s5 q hq).1.trans (s6 q hq).1.symm
              have t2 : (xm_67 (xm_66 M (ro_sc v1)) v2).2.1 (36 + 2) q = (xm_236 (xm_67 (xm_66 M (ro_sc v1)) v2) v1 v2).2.1 182 q := (s5 q hq).2.trans (s6 q hq).2.symm
              have t3 : (xm_67 (xm_66 M (ro_sc v1)) v2).2.1 5 5 = (xm_67 (xm_66 M (ro_sc v1)) v2).2.1 168 0 := (a3.2.1 5 5 rfl).trans ((h.2.1.1.2.2.2.1).symm.trans (a3.2.1 168 0 rfl).symm)
              rw [t1, t2, t3]
              by_cases z2 : v4 = 2
              · rw [if_pos z2, if_neg (by rw [z2]; decide), if_neg (by rw [z2]; decide)]
              · rw [if_neg z2]
                by_cases z0 : v4 = 0
                · rw [if_pos z0, if_pos z0]
                · rw [if_neg z0, if_neg z0, if_pos]
                  have := ro_w13.mp b3
                  grind
            · unfold xm_233
              rw [if_pos (f1 _), if_pos (f2 _), if_pos (f5 _ a3), if_pos (f3 _), if_pos g2]
              exact s2
          · have hm : xm_64 M v1 v2 v3 v4 = M := by unfold xm_64; rw [if_pos b1, if_pos b2, if_pos b5, if_pos b3, if_neg y1]
            obtain ⟨g0, g1⟩ := by_no h b1 y1
            have n0 : ¬ (0 : Int32) ≤ xf_235 M v1 := Int32.not_le.mpr g0
            have f5 := f5 M (ro_eqv_r h.1)
            rw [hm]
            refine ⟨⟨fun _ => ⟨fun _ => ⟨fun _ => ⟨fun _ => ⟨fun y => absurd y y1, fun _ => trivial⟩, fun y => absurd b3 y⟩, fun y => absurd b5 y⟩, fun y => absurd b2 y⟩, fun y => absurd b1 y⟩, ?_, ?_, ?_⟩
            · unfold xp_233
              exact ⟨fun _ => ⟨fun _ => ⟨fun _ => ⟨fun _ => ⟨xp_235_t b1, fun y => absurd y n0, fun _ => ⟨xp_235_t b1, trivial⟩⟩, fun y => absurd (f3 _) y⟩, fun y => absurd f5 y⟩, fun y => absurd (f2 _) y⟩, fun y => absurd (f1 _) y⟩
            · unfold xf_233 xf_64
              rw [if_pos (f1 _), if_pos (f2 _), if_pos f5, if_pos (f3 _), if_neg n0, if_pos b1, if_pos b2, if_pos b5, if_pos b3, if_neg y1, g1]
            · unfold xm_233
              rw [if_pos (f1 _), if_pos (f2 _), if_pos f5, if_pos (f3 _), if_neg n0]
              exact ro_eqv_r h.1
        · have hm : xm_64 M v1 v2 v3 v4 = M := by unfold xm_64; rw [if_pos b1, if_pos b2, if_pos b5, if_neg b3]
          have f3 : ¬ xf_195 M v4 0 2 = true := by rw [← ro_w13_195]; exact b3
          have f5 := f5 M (ro_eqv_r h.1)
          rw [hm]
          refine ⟨⟨fun _ => ⟨fun _ => ⟨fun _ => ⟨fun y => absurd y b3, fun _ => trivial⟩, fun y => absurd b5 y⟩, fun y => absurd b2 y⟩, fun y => absurd b1 y⟩, ⟨fun _ => ⟨fun _ => ⟨fun _ => ⟨fun y => absurd y f3, fun _ => trivial⟩, fun _ => trivial⟩, fun _ => trivial⟩, fun _ => trivial⟩, ?_, ?_⟩
          · unfold xf_233 xf_64
            rw [if_pos (f1 _), if_pos (f2 _), if_pos f5, if_neg f3, if_pos b1, if_pos b2, if_pos b5, if_neg b3]
          · unfold xm_233
            rw [if_pos (f1 _), if_pos (f2 _), if_pos f5, if_neg f3]
            exact ro_eqv_r h.1
      · have hm : xm_64 M v1 v2 v3 v4 = M := by unfold xm_64; rw [if_pos b1, if_pos b2, if_neg b5]
        have f5 : ¬ xf_204 M v3 = true := by rw [ro_one_b h]; exact b5
        rw [hm]
        refine ⟨⟨fun _ => ⟨fun _ => ⟨fun y => absurd y b5, fun _ => trivial⟩, fun y => absurd b2 y⟩, fun y => absurd b1 y⟩, ⟨fun _ => ⟨fun _ => ⟨fun y => absurd y f5, fun _ => trivial⟩, fun _ => trivial⟩, fun _ => trivial⟩, ?_, ?_⟩
        · unfold xf_233 xf_64
          rw [if_pos (f1 _), if_pos (f2 _), if_neg f5, if_pos b1, if_pos b2, if_neg b5]
        · unfold xm_233
          rw [if_pos (f1 _), if_pos (f2 _), if_neg f5]
          exact ro_eqv_r h.1
    · have hm : xm_64 M v1 v2 v3 v4 = M := by unfold xm_64; rw [if_pos b1, if_neg b2]
      have f2 : ¬ xf_234 M v2 = true := by unfold xf_234; rw [← ro_w13_195]; exact b2
      rw [hm]
      refine ⟨⟨fun _ => ⟨fun y => absurd y b2, fun _ => trivial⟩, fun y => absurd b1 y⟩, ⟨fun _ => ⟨fun y => absurd y f2, fun _ => trivial⟩, fun _ => trivial⟩, ?_, ?_⟩
      · unfold xf_233 xf_64
        rw [if_pos (f1 _), if_neg f2, if_pos b1, if_neg b2]
      · unfold xm_233
        rw [if_pos (f1 _), if_neg f2]
        exact ro_eqv_r h.1
  · have hm : xm_64 M v1 v2 v3 v4 = M := by unfold xm_64; rw [if_neg b1]
    have f1 : ¬ xf_198 M v1 = true := by rw [ro_w198]; exact b1
    rw [hm]
    refine ⟨⟨fun y => absurd y b1, fun _ => trivial⟩, ⟨fun y => absurd y f1, fun _ => trivial⟩, ?_, ?_⟩
    · unfold xf_233 xf_64
      rw [if_neg f1, if_neg b1]
    · unfold xm_233
      rw [if_neg f1]
      exact ro_eqv_r h.1
end EVENING2

