/-! people out of a row; pair people -/
section PEOPLE
variable {X : ro_Sx}
theorem lN_int {n : Nat} (h : n < 2 ^ 63) : (lN n).toInt = (n : Int) := Int64.toInt_ofNat_of_lt h
theorem pe_cmp0 {n : Nat} (h : n < 2 ^ 63) : ¬ lg_cmp (lN n) 0 < 0 := by
  have := (lg_cmp_ge (lN n) 0).mpr (by rw [Int64.le_iff_toInt_le, lN_int h]; show (0 : Int) ≤ n; omega)
  exact Int32.not_lt.mpr this
theorem pe_cmp {a b : Nat} (ha : a < 2 ^ 63) (hb : b < 2 ^ 63) : (0 ≤ lg_cmp (lN a) (lN b)) ↔ b ≤ a := by
  rw [lg_cmp_ge, Int64.le_iff_toInt_le, lN_int ha, lN_int hb]
  omega
/-- what has come so far: the class's rows in A, the reference's in B -/
def pe_S (M A B : ro_Mm) (q : Nat) : Prop := q ≤ 6 ∧ A.2.1 5 4 = nI q ∧ B.2.1 163 1 = nI q ∧ (∀ i, i < 6 → (B.2.1 164 i = A.2.1 7 i ∧ 0 ≤ A.2.1 7 i ∧ A.2.1 7 i ≤ 20) ∧ (B.2.1 165 i = A.2.1 8 i ∧ 0 ≤ A.2.1 8 i ∧ A.2.1 8 i ≤ 20) ∧ (B.2.1 166 i = A.2.1 9 i ∧ 0 ≤ A.2.1 9 i ∧ A.2.1 9 i ≤ 12) ∧ (B.2.1 167 i = A.2.1 10 i ∧ 0 ≤ A.2.1 10 i ∧ A.2.1 10 i ≤ 20)) ∧
  (A.1 = M.1 ∧ A.2.2 = M.2.2 ∧ ∀ c j, c ≠ 7 → c ≠ 8 → c ≠ 9 → c ≠ 10 → ¬ (c = 5 ∧ j = 4) → A.2.1 c j = M.2.1 c j)
def pe_F (B0 B : ro_Mm) : Prop := B.1 = B0.1 ∧ B.2.2 = B0.2.2 ∧ ∀ c j, c ≠ 164 → c ≠ 165 → c ≠ 166 → c ≠ 167 → ¬ (c = 163 ∧ j = 1) → B.2.1 c j = B0.2.1 c j
theorem pe_S_s {A : ro_Mm} {a b c d k : Nat} {w u p : Int32} {n1 n2 : Nat} (h1 : a ≠ b) (h2 : a ≠ c) (h3 : a ≠ d) (h4 : b ≠ c) (h5 : b ≠ d) (h6 : c ≠ d) (g1 : a ≠ n1) (g2 : b ≠ n1) (g3 : c ≠ n1) (g4 : d ≠ n1) {v : Int32} : ∀ i, (ro_sI (ro_sI (ro_sI (ro_sI (ro_sI A a k w) b k u) c k p) d k 0) n1 n2 v).2.1 a i = (if i = k then w else A.2.1 a i) ∧ (ro_sI (ro_sI (ro_sI (ro_sI (ro_sI A a k w) b k u) c k p) d k 0) n1 n2 v).2.1 b i = (if i = k then u else A.2.1 b i) ∧ (ro_sI (ro_sI (ro_sI (ro_sI (ro_sI A a k w) b k u) c k p) d k 0) n1 n2 v).2.1 c i = (if i = k then p else A.2.1 c i) ∧ (ro_sI (ro_sI (ro_sI (ro_sI (ro_sI A a k w) b k u) c k p) d k 0) n1 n2 v).2.1 d i = (if i = k then 0 else A.2.1 d i) := by
  intro i
  simp only [ro_rd_s, h1, h2, h3, h4, h5, h6, g1, g2, g3, g4, h1.symm, h2.symm, h3.symm, h4.symm, h5.symm, h6.symm, false_and, if_false, true_and]
theorem pe_loop {M B0 : ro_Mm} (hJ : ∀ j, B0.2.2.1 192 j = M.2.2.1 192 j) {v1 : Int32} (hv : ro_bs v1 = true) {z i m : Nat} (hz : z ≤ 60) (hi : i < 2 ^ 31) (hm : m ≤ 6) (e2 : M.2.1 (ro_sc v1) 2 = nI z) (e191 : B0.2.1 191 v1.toNatClampNeg = nI z) (hb : ∀ k, k < z → xf_25 M (ro_sc v1) (nI k) = xf_238 M v1 (nI k) ∧ xp_238 M v1 (nI k)) : ∀ (d k n n2 q : Nat) (A B : ro_Mm), k + d = m → d < n → d < n2 → pe_S M A B q → pe_F B0 B →
    xq_23_3 n A (nI k) (ro_sc v1) (nI i) (nI m) ∧ xq_197_58 n2 B (nI k) v1 (nI i) (nI m) ∧
    (if (xg_23_3 n A (nI k) (ro_sc v1) (nI i) (nI m)).1 = true then (xg_23_3 n A (nI k) (ro_sc v1) (nI i) (nI m)).2.1 else (xg_23_3 n A (nI k) (ro_sc v1) (nI i) (nI m)).2.2.1) = (if (xg_197_58 n2 B (nI k) v1 (nI i) (nI m)).1 = true then (xg_197_58 n2 B (nI k) v1 (nI i) (nI m)).2.1 else nI m) ∧
    (∃ q2, pe_S M (xg_23_3 n A (nI k) (ro_sc v1) (nI i) (nI m)).2.2.2 (xg_197_58 n2 B (nI k) v1 (nI i) (nI m)).2.2.2 q2) ∧ pe_F B0 (xg_197_58 n2 B (nI k) v1 (nI i) (nI m)).2.2.2 := by
  obtain ⟨s1, s2, s3⟩ := ro_sx hv
  have hs := ro_sc_is v1
  have v06 := ro_bs_t hv
  have ev : v1 = nI v1.toNatClampNeg := ro_nI_of v06.1
  intro d
  induction d with
  | zero =>
    intro k n n2 q A B hk hn hn2 hS hF
    cases n with
    | zero => omega
    | succ n =>
      cases n2 with
      | zero => omega
      | succ n2 =>
        have c0 : nI m ≤ nI k := nI_le (by omega) (by omega)
        have ekm : nI k = nI m := by rw [show k = m by omega]
        rw [xg_23_3, xq_23_3, xg_197_58, xq_197_58, if_pos c0, if_pos c0]
        refine ⟨⟨fun _ => trivial, fun y => absurd c0 y⟩, ⟨fun _ => trivial, fun y => absurd c0 y⟩, ?_, ⟨q, hS⟩, hF⟩
        exact ekm
  | succ d ih =>
    intro k n n2 q A B hk hn hn2 hS hF
    obtain ⟨hq, p1, p2, p3, p4, p5, p6⟩ := hS
    obtain ⟨f1, f2, f3⟩ := hF
    cases n with
    | zero => omega
    | succ n =>
      cases n2 with
      | zero => omega
      | succ n2 =>
        have c0 : ¬ nI m ≤ nI k := nI_ge (by omega) (by omega)
        have eA2 : A.2.1 (ro_sc v1) 2 = nI z := by
          rw [p6 _ _ (by unfold ro_is at hs; omega) (by unfold ro_is at hs; omega) (by unfold ro_is at hs; omega) (by unfold ro_is at hs; omega) (by unfold ro_is at hs; omega)]; exact e2
        have eB191 : B.2.1 191 v1.toNatClampNeg = nI z := by rw [f3 _ _ (by decide) (by decide) (by decide) (by decide) (by omega)]; exact e191
        have L0 : (nI i).toInt64 + ((3 : Int32) * nI k).toInt64 = lN (i + 3 * k) := by
          rw [show (3 : Int32) * nI k = nI (3 * k) from nI_mul 3 k, nI_l hi, nI_l (by omega), lN_add]
        have L2 : lN (i + 3 * k) + 2 = lN (i + 3 * k + 2) := lN_add _ 2
        have n1 : ¬ lg_cmp (lN (i + 3 * k)) 0 < 0 := pe_cmp0 (by omega)
        have LZ : (nI z).toInt64 = lN z := nI_l (by omega)
        have e3k : nI i + (3 : Int32) * nI k = nI (i + 3 * k) := by rw [show (3 : Int32) * nI k = nI (3 * k) from nI_mul 3 k, nI_add]
        -- is there room for three more?
        have room : ((nI z - (3 : Int32) * (nI k + 1)) < nI i) ↔ ¬ i + 3 * k + 2 < z := by
          have e : (3 : Int32) * (nI k + 1) = nI (3 * k + 3) := by rw [nI_1, show (3 : Int32) * nI (k + 1) = nI (3 * (k + 1)) from nI_mul 3 _]; congr 1
          rw [e, Int32.lt_iff_toInt_lt, Int32.toInt_sub, nI_toInt (by omega), nI_toInt (by omega), nI_toInt hi]
          rw [Int.bmod_eq_of_le (by omega) (by omega)]
          omega
        by_cases r : i + 3 * k + 2 < z
        · have c1 : ¬ (xf_24 A (ro_sc v1) - (3 : Int32) * (nI k + 1)) < nI i := by
            show ¬ (A.2.1 (ro_sc v1) 2 - _) < _
            rw [eA2, room]; omega
          have g0 : ¬ 0 ≤ lg_cmp (lN (i + 3 * k + 2)) (lN z) := by rw [pe_cmp (by omega) (by omega)]; omega
          have RD : ∀ y, y < z → xf_25 A (ro_sc v1) (nI y) = xf_25 M (ro_sc v1) (nI y) := fun y hy => by
            unfold xf_25 xf_26
            rw [eA2, e2, p5]
          have RB : ∀ y, y < z → (B.2.2.1 192 ((60 : Int32) * v1 + nI y).toNatClampNeg).toInt32 = xf_25 M (ro_sc v1) (nI y) ∧ vp_in ((60 : Int32) * v1 + nI y) 360 := fun y hy => by
            obtain ⟨h1, h2⟩ := hb y hy
            refine ⟨?_, h2.1⟩
            rw [h1, f2, hJ]; rfl
          have w3 : (lN (i + 3 * k)).toInt32 = nI (i + 3 * k) := lN_i _
          have q1 : (60 : Int32) * v1 + nI (i + 3 * k) + 1 = (60 : Int32) * v1 + nI (i + 3 * k + 1) := by rw [Int32.add_assoc, nI_1]
          have q2 : (60 : Int32) * v1 + nI (i + 3 * k) + 2 = (60 : Int32) * v1 + nI (i + 3 * k + 2) := by rw [Int32.add_assoc, show nI (i + 3 * k) + 2 = nI (i + 3 * k + 2) from nI_add _ 2]
          have q3 : nI (i + 3 * k) + 1 = nI (i + 3 * k + 1) := nI_1 _
          have q4 : nI (i + 3 * k) + 2 = nI (i + 3 * k + 2) := nI_add _ 2
          obtain ⟨B0', B0v⟩ := RB (i + 3 * k) (by omega)
          obtain ⟨B1', B1v⟩ := RB (i + 3 * k + 1) (by omega)
          obtain ⟨B2', B2v⟩ := RB (i + 3 * k + 2) r
          have A0' := RD (i + 3 * k) (by omega)
          have A1' := RD (i + 3 * k + 1) (by omega)
          have A2' := RD (i + 3 * k + 2) r
          generalize hw : xf_25 M (ro_sc v1) (nI (i + 3 * k)) = w at *
          generalize hu : xf_25 M (ro_sc v1) (nI (i + 3 * k + 1)) = u at *
          generalize hp : xf_25 M (ro_sc v1) (nI (i + 3 * k + 2)) = p at *
          by_cases ok : (0 ≤ w ∧ w ≤ 20) ∧ (0 ≤ u ∧ u ≤ 20) ∧ (0 ≤ p ∧ p ≤ 12) ∧ q < 6
          · obtain ⟨o1, o2, o3, o4⟩ := ok
            have l6 : A.2.1 5 4 < 6 := by rw [p1]; exact nI_lt (b := 6) o4 (by decide)
            obtain ⟨x1, x2⟩ := ro_in14 (M := A) (by rw [p1]; exact nI_pos' (by omega)) l6 o1 o2 o3
            have n6 : ¬ B.2.1 163 1 = 6 := by
              rw [p2]; intro e
              have := (nI_eq (a := q) (b := 6) (by omega) (by decide)).mp e
              omega
            have t1 : xf_195 B w 0 20 = true := by rw [ro_w195]; exact o1
            have t2 : xf_195 B u 0 20 = true := by rw [ro_w195]; exact o2
            have t3 : xf_195 B p 0 12 = true := by rw [ro_w195]; exact o3
            have ecl : (nI q).toNatClampNeg = q := nI_clamp (by omega)
            have vq : vp_in (nI q) 6 := ro_vn o4 (by omega)
            have m14 : xm_14 A w u p = ro_sI (ro_sI (ro_sI (ro_sI (ro_sI A 7 q w) 8 q u) 9 q p) 10 q 0) 5 4 (nI (q + 1)) := by rw [x2, p1, ecl, nI_1]
            have m196 : xm_196 B w u p = ro_sI (ro_sI (ro_sI (ro_sI (ro_sI B 164 q w) 165 q u) 166 q p) 167 q 0) 163 1 (nI (q + 1)) := by unfold xm_196; rw [p2, ecl, nI_1]
            have xp196 : xp_196 B w u p := by unfold xp_196; rw [p2]; exact ⟨vq, vq, vq, vq, trivial⟩
            have SA := pe_S_s (A := A) (a := 7) (b := 8) (c := 9) (d := 10) (k := q) (w := w) (u := u) (p := p) (n1 := 5) (n2 := 4) (v := nI (q + 1)) (by decide) (by decide) (by decide) (by decide) (by decide) (by decide) (by decide) (by decide) (by decide) (by decide)
            have SB := pe_S_s (A := B) (a := 164) (b := 165) (c := 166) (d := 167) (k := q) (w := w) (u := u) (p := p) (n1 := 163) (n2 := 1) (v := nI (q + 1)) (by decide) (by decide) (by decide) (by decide) (by decide) (by decide) (by decide) (by decide) (by decide) (by decide)
            have S2 : pe_S M (xm_14 A w u p) (xm_196 B w u p) (q + 1) := by
              rw [m14, m196]
              refine ⟨by omega, ?_, ?_, fun y hy => ?_, p4, p5, fun c j n7 n8 n9 n10 n5 => ?_⟩
              · rw [ro_rd_s, if_pos ⟨rfl, rfl⟩]
              · rw [ro_rd_s, if_pos ⟨rfl, rfl⟩]
              · obtain ⟨sa1, sa2, sa3, sa4⟩ := SA y
                obtain ⟨sb1, sb2, sb3, sb4⟩ := SB y
                rw [sa1, sa2, sa3, sa4, sb1, sb2, sb3, sb4]
                by_cases e : y = q
                · simp only [if_pos e]
                  exact ⟨⟨trivial, o1⟩, ⟨trivial, o2⟩, ⟨trivial, o3⟩, ⟨trivial, by decide, by decide⟩⟩
                · simp only [if_neg e]
                  exact p3 y hy
              · rw [ro_rd_s, if_neg n5, ro_sI_ne n10, ro_sI_ne n9, ro_sI_ne n8, ro_sI_ne n7]; exact p6 c j n7 n8 n9 n10 n5
            have F2 : pe_F B0 (xm_196 B w u p) := by
              rw [m196]
              exact ⟨f1, f2, fun c j n7 n8 n9 n10 n5 => by rw [ro_rd_s, if_neg n5, ro_sI_ne n10, ro_sI_ne n9, ro_sI_ne n8, ro_sI_ne n7]; exact f3 c j n7 n8 n9 n10 n5⟩
            obtain ⟨i1, i2, i3, i4, i5⟩ := ih (k + 1) n n2 (q + 1) _ _ (by omega) (by omega) (by omega) S2 F2
            rw [xg_23_3, xq_23_3, xg_197_58, xq_197_58, if_neg c0, if_neg c0, if_neg c1, e3k, q3, q4, A0', A1', A2', if_pos x1, L0, L2, eB191, LZ, if_neg n1, if_neg g0, if_neg n6, w3, q1, q2, B0', B1', B2', if_pos t1, if_pos t2, if_pos t3, nI_1]
            rw [nI_1] at c1
            exact ⟨⟨fun y => absurd y c0, fun _ => ⟨fun y => absurd y c1, fun _ => ⟨fun _ => i1, fun y => absurd x1 y⟩⟩⟩, ⟨fun y => absurd y c0, fun _ => ⟨fun y => absurd y n1, fun _ => ⟨s1, fun y => absurd y g0, fun _ => ⟨fun y => absurd y n6, fun _ => ⟨B0v, fun _ => ⟨B1v, fun _ => ⟨B2v, fun _ => ⟨B0v, B1v, B2v, xp196, i2⟩, fun y => absurd t3 y⟩, fun y => absurd t2 y⟩, fun y => absurd t1 y⟩⟩⟩⟩⟩, i3, i4, i5⟩
          · have bad : ¬ (0 ≤ w ∧ w ≤ 20) ∨ ¬ (0 ≤ u ∧ u ≤ 20) ∨ ¬ (0 ≤ p ∧ p ≤ 12) ∨ 6 ≤ A.2.1 5 4 := by
              by_cases o1 : 0 ≤ w ∧ w ≤ 20
              · by_cases o2 : 0 ≤ u ∧ u ≤ 20
                · by_cases o3 : 0 ≤ p ∧ p ≤ 12
                  · refine Or.inr (Or.inr (Or.inr ?_))
                    rw [p1]
                    exact nI_le (a := 6) (by by_cases y : q < 6; exact absurd ⟨o1, o2, o3, y⟩ ok; omega) (by omega)
                  · exact Or.inr (Or.inr (Or.inl o3))
                · exact Or.inr (Or.inl o2)
              · exact Or.inl o1
            obtain ⟨x1, x2⟩ := ro_no14 (M := A) bad
            have x1' : ¬ xf_14 A w u p = true := by rw [x1]; decide
            rw [xg_23_3, xq_23_3, xg_197_58, xq_197_58, if_neg c0, if_neg c0, if_neg c1, e3k, q3, q4, A0', A1', A2', if_neg x1', x2, L0, L2, eB191, LZ, if_neg n1, if_neg g0, w3, q1, q2, B0', B1', B2']
            refine ⟨⟨fun y => absurd y c0, fun _ => ⟨fun y => absurd y c1, fun _ => ⟨fun y => absurd y x1', fun _ => trivial⟩⟩⟩, ?_⟩
            have fin : (if (true, nI k, nI k, A).1 = true then (true, nI k, nI k, A).2.1 else (true, nI k, nI k, A).2.2.1) = (if (true, nI k, nI k, B).1 = true then (true, nI k, nI k, B).2.1 else nI m) := rfl
            have SS : ∃ q2, pe_S M A B q2 := ⟨q, hq, p1, p2, p3, p4, p5, p6⟩
            by_cases n6 : B.2.1 163 1 = 6
            · rw [if_pos n6]
              exact ⟨⟨fun y => absurd y c0, fun _ => ⟨fun y => absurd y n1, fun _ => ⟨s1, fun y => absurd y g0, fun _ => ⟨fun _ => trivial, fun y => absurd n6 y⟩⟩⟩⟩, fin, SS, f1, f2, f3⟩
            · rw [if_neg n6]
              have hq6 : q < 6 := by
                by_cases y : q = 6
                · rw [p2, y] at n6; exact absurd rfl n6
                · omega
              by_cases t1 : xf_195 B w 0 20 = true
              · rw [if_pos t1]
                by_cases t2 : xf_195 B u 0 20 = true
                · rw [if_pos t2]
                  by_cases t3 : xf_195 B p 0 12 = true
                  · rw [ro_w195] at t1 t2 t3
                    exact absurd ⟨t1, t2, t3, hq6⟩ ok
                  · rw [if_neg t3]
                    exact ⟨⟨fun y => absurd y c0, fun _ => ⟨fun y => absurd y n1, fun _ => ⟨s1, fun y => absurd y g0, fun _ => ⟨fun y => absurd y n6, fun _ => ⟨B0v, fun _ => ⟨B1v, fun _ => ⟨B2v, fun y => absurd y t3, fun _ => trivial⟩, fun _ => trivial⟩, fun _ => trivial⟩⟩⟩⟩⟩, fin, SS, f1, f2, f3⟩
                · rw [if_neg t2]
                  exact ⟨⟨fun y => absurd y c0, fun _ => ⟨fun y => absurd y n1, fun _ => ⟨s1, fun y => absurd y g0, fun _ => ⟨fun y => absurd y n6, fun _ => ⟨B0v, fun _ => ⟨B1v, fun y => absurd y t2, fun _ => trivial⟩, fun _ => trivial⟩⟩⟩⟩⟩, fin, SS, f1, f2, f3⟩
              · rw [if_neg t1]
                exact ⟨⟨fun y => absurd y c0, fun _ => ⟨fun y => absurd y n1, fun _ => ⟨s1, fun y => absurd y g0, fun _ => ⟨fun y => absurd y n6, fun _ => ⟨B0v, fun y => absurd y t1, fun _ => trivial⟩⟩⟩⟩⟩, fin, SS, f1, f2, f3⟩
        · have c1 : (xf_24 A (ro_sc v1) - (3 : Int32) * (nI k + 1)) < nI i := by
            show (A.2.1 (ro_sc v1) 2 - _) < _
            rw [eA2, room]; exact r
          have g0 : 0 ≤ lg_cmp (lN (i + 3 * k + 2)) (lN z) := by rw [pe_cmp (by omega) (by omega)]; omega
          rw [xg_23_3, xq_23_3, xg_197_58, xq_197_58, if_neg c0, if_neg c0, if_pos c1, L0, L2, eB191, LZ, if_neg n1, if_pos g0]
          exact ⟨⟨fun y => absurd y c0, fun _ => ⟨fun _ => trivial, fun y => absurd c1 y⟩⟩, ⟨fun y => absurd y c0, fun _ => ⟨fun y => absurd y n1, fun _ => ⟨s1, fun _ => trivial, fun y => absurd g0 y⟩⟩⟩, rfl, ⟨q, hq, p1, p2, p3, p4, p5, p6⟩, f1, f2, f3⟩
theorem pe_inv {M A B : ro_Mm} (h : ro_Inv M) {q : Nat} (hS : pe_S M A B q) (hF : pe_F A B) : ro_Inv B := by
  obtain ⟨hq, p1, p2, p3, p4, p5, p6⟩ := hS
  obtain ⟨f1, f2, f3⟩ := hF
  obtain ⟨ha, hb, hc, hd, he, hf, hg, hh⟩ := h.2.1
  have k : ∀ c j, c ≠ 7 → c ≠ 8 → c ≠ 9 → c ≠ 10 → ¬ (c = 5 ∧ j = 4) → c ≠ 164 → c ≠ 165 → c ≠ 166 → c ≠ 167 → ¬ (c = 163 ∧ j = 1) → B.2.1 c j = M.2.1 c j := fun c j a1 a2 a3 a4 a5 a6 a7 a8 a9 a10 => (f3 c j a6 a7 a8 a9 a10).trans (p6 c j a1 a2 a3 a4 a5)
  have kA : ∀ c j, c ≠ 164 → c ≠ 165 → c ≠ 166 → c ≠ 167 → ¬ (c = 163 ∧ j = 1) → B.2.1 c j = A.2.1 c j := f3
  have gen : ∀ c j, ro_lr c j = true → c ≠ 7 → c ≠ 8 → c ≠ 9 → c ≠ 10 → ¬ (c = 5 ∧ j = 4) → c ≠ 164 → c ≠ 165 → c ≠ 166 → c ≠ 167 → ¬ (c = 163 ∧ j = 1) → B.2.1 c j = M.2.1 c j := fun c j _ => k c j
  refine ⟨⟨f1.trans (p4.trans h.1.1), fun e he => by rw [f2, p5]; exact h.1.2 e he⟩, ⟨?_, ?_, ?_, ?_, ?_, ?_, ?_, ?_⟩, ?_⟩
  · obtain ⟨h1, h2, h3, h4⟩ := ha
    unfold iv_a
    rw [p2, kA 5 4 (by decide) (by decide) (by decide) (by decide) (by decide), p1, k 168 0 (by decide) (by decide) (by decide) (by decide) (by decide) (by decide) (by decide) (by decide) (by decide) (by decide), k 168 1 (by decide) (by decide) (by decide) (by decide) (by decide) (by decide) (by decide) (by decide) (by decide) (by decide), k 168 2 (by decide) (by decide) (by decide) (by decide) (by decide) (by decide) (by decide) (by decide) (by decide) (by decide), k 5 5 (by decide) (by decide) (by decide) (by decide) (by decide) (by decide) (by decide) (by decide) (by decide) (by decide), k 5 6 (by decide) (by decide) (by decide) (by decide) (by decide) (by decide) (by decide) (by decide) (by decide) (by decide), k 5 7 (by decide) (by decide) (by decide) (by decide) (by decide) (by decide) (by decide) (by decide) (by decide) (by decide)]
    exact ⟨rfl, nI_pos' (by omega), nI_le (b := 6) hq (by decide), h4⟩
  · intro i hi
    rw [kA 7 i (by decide) (by decide) (by decide) (by decide) (by omega), kA 8 i (by decide) (by decide) (by decide) (by decide) (by omega), kA 9 i (by decide) (by decide) (by decide) (by decide) (by omega), kA 10 i (by decide) (by decide) (by decide) (by decide) (by omega)]
    exact p3 i hi
  · intro j hj
    rw [k 184 j (by decide) (by decide) (by decide) (by decide) (by omega) (by decide) (by decide) (by decide) (by decide) (by omega), k 11 j (by decide) (by decide) (by decide) (by decide) (by omega) (by decide) (by decide) (by decide) (by decide) (by omega)]
    exact hc j hj
  · have r : ∀ c j, (c = 163 ∨ c = 5) → j ≠ 1 → j ≠ 4 → B.2.1 c j = M.2.1 c j := fun c j hc h1 h4 => k c j (by omega) (by omega) (by omega) (by omega) (by omega) (by omega) (by omega) (by omega) (by omega) (by omega)
    have r2 : ∀ c j, (c = 185 ∨ c = 13 ∨ c = 186 ∨ c = 14 ∨ c = 187 ∨ c = 15) → B.2.1 c j = M.2.1 c j := fun c j hc => k c j (by omega) (by omega) (by omega) (by omega) (by omega) (by omega) (by omega) (by omega) (by omega) (by omega)
    obtain ⟨g1, g2, g3, g4, g5⟩ := hd
    refine ⟨?_, ?_, ?_, fun i hi => ?_, fun j hj => ?_⟩
    · rw [r 163 43 (by decide) (by decide) (by decide), r 5 10 (by decide) (by decide) (by decide)]; exact g1
    · rw [r 163 44 (by decide) (by decide) (by decide), r 5 11 (by decide) (by decide) (by decide)]; exact g2
    · rw [r 163 45 (by decide) (by decide) (by decide), r 5 12 (by decide) (by decide) (by decide)]; exact g3
    · rw [r2 185 i (by decide), r2 13 i (by decide), r2 186 i (by decide), r2 14 i (by decide)]; exact g4 i hi
    · rw [r2 187 j (by decide), r2 15 j (by decide)]; exact g5 j hj
  · obtain ⟨g1, g2⟩ := he
    refine ⟨?_, fun i hi => ?_⟩
    · rw [k 163 14 (by decide) (by decide) (by decide) (by decide) (by decide) (by decide) (by decide) (by decide) (by decide) (by decide), k 16 5 (by decide) (by decide) (by decide) (by decide) (by decide) (by decide) (by decide) (by decide) (by decide) (by decide)]; exact g1
    · rw [k 173 i (by decide) (by decide) (by decide) (by decide) (by omega) (by decide) (by decide) (by decide) (by decide) (by omega), k 17 i (by decide) (by decide) (by decide) (by decide) (by omega) (by decide) (by decide) (by decide) (by decide) (by omega)]; exact g2 i hi
  · have r : ∀ c j, (c = 16 ∨ c = 19 ∨ c = 174 ∨ c = 175 ∨ c = 176 ∨ c = 177 ∨ c = 178 ∨ (c = 163 ∧ j = 26)) → B.2.1 c j = M.2.1 c j := fun c j hc => k c j (by omega) (by omega) (by omega) (by omega) (by omega) (by omega) (by omega) (by omega) (by omega) (by omega)
    obtain ⟨L, g1, g2, g3, g4, g5, g6, g7, g8, g9⟩ := hf
    refine ⟨L, g1, g2, ?_, fun k hk => ?_, fun k hk => ?_, g6, ?_, fun l hl => ?_, ?_⟩
    · rw [r 16 8 (by decide)]; exact g3
    · rw [r 19 k (by omega)]; exact g4 k hk
    · rw [r 174 k (by omega), r 175 k (by omega)]; exact g5 k hk
    · rw [r 176 0 (by decide)]; exact g7
    · rw [r 177 l (by omega), r 178 l (by omega)]; exact g8 l hl
    · rw [r 163 26 (by decide)]; exact g9
  · have r : ∀ c j, (c = 54 ∨ c = 55 ∨ c = 56 ∨ c = 57 ∨ c = 58 ∨ c = 169 ∨ c = 170 ∨ c = 171 ∨ c = 172 ∨ (c = 163 ∧ j ≠ 1)) → B.2.1 c j = M.2.1 c j := fun c j hc => k c j (by omega) (by omega) (by omega) (by omega) (by omega) (by omega) (by omega) (by omega) (by omega) (by omega)
    obtain ⟨g1, g2⟩ := hg
    refine ⟨?_, fun i hi => ?_⟩
    · rw [r 163 7 (by decide), r 163 8 (by decide), r 54 4 (by decide), r 54 5 (by decide)]; exact g1
    · rw [r 170 i (by omega), r 55 i (by omega), r 169 i (by omega), r 56 i (by omega), r 171 i (by omega), r 57 i (by omega), r 172 i (by omega), r 58 i (by omega)]; exact g2 i hi
  · have r : ∀ c j, (c = 59 ∨ c = 60 ∨ c = 61 ∨ c = 188 ∨ c = 189 ∨ (c = 163 ∧ j ≠ 1)) → B.2.1 c j = M.2.1 c j := fun c j hc => k c j (by omega) (by omega) (by omega) (by omega) (by omega) (by omega) (by omega) (by omega) (by omega) (by omega)
    obtain ⟨g1, g2, g3, g4⟩ := hh
    refine ⟨?_, ?_, fun i hi => ?_, fun i hi => ?_⟩
    · rw [r 163 49 (by decide), r 59 2 (by decide)]; exact g1
    · rw [r 163 51 (by decide), r 59 3 (by decide)]; exact g2
    · rw [r 188 i (by omega), r 60 i (by omega)]; exact g3 i hi
    · rw [r 189 i (by omega), r 61 i (by omega)]; exact g4 i hi
  · refine iv_s_c (fun c j e => ?_) (fun c j _ => by rw [f2, p5]) h.2.2
    have n : ∀ d, ro_ls d j = false → c ≠ d := fun d hd e2 => by rw [e2, hd] at e; exact Bool.noConfusion e
    exact k c j (n 7 rfl) (n 8 rfl) (n 9 rfl) (n 10 rfl) (fun q => n 5 rfl q.1) (n 164 rfl) (n 165 rfl) (n 166 rfl) (n 167 rfl) (fun q => n 163 rfl q.1)
theorem all_1 {M : ro_Mm} (h : ro_Inv M) {v1 v2 v3 : Int32} : xp_19 M v1 v2 v3 ∧ xp_197 (xm_19 M v1 v2 v3) v1 v2 v3 ∧ xf_197 (xm_19 M v1 v2 v3) v1 v2 v3 = xf_19 M v1 v2 v3 ∧ ro_Inv (xm_197 (xm_19 M v1 v2 v3) v1 v2 v3) := by
  obtain ⟨p, hp, e1, e2⟩ := ro_ppl h
  have NO : ∀ (g : xp_19 M v1 v2 v3) (g2 : xm_19 M v1 v2 v3 = M) (g3 : xp_197 M v1 v2 v3) (g4 : xf_197 M v1 v2 v3 = xf_19 M v1 v2 v3) (g5 : xm_197 M v1 v2 v3 = M), xp_19 M v1 v2 v3 ∧ xp_197 (xm_19 M v1 v2 v3) v1 v2 v3 ∧ xf_197 (xm_19 M v1 v2 v3) v1 v2 v3 = xf_19 M v1 v2 v3 ∧ ro_Inv (xm_197 (xm_19 M v1 v2 v3) v1 v2 v3) := by
    intro g g2 g3 g4 g5
    rw [g2, g5]
    exact ⟨g, g3, g4, h⟩
  by_cases b1 : ro_bs v1 = true
  · have f1 : ∀ A : ro_Mm, xf_198 A v1 = true := fun A => by rw [ro_w198]; exact b1
    obtain ⟨s1, s2, s3⟩ := ro_sx b1
    by_cases b2 : xf_13 M v3 1 6 = true
    · have f2 : ∀ A : ro_Mm, xf_195 A v3 1 6 = true := fun A => by rw [ro_w195]; exact ro_w13.mp b2
      have S := sh_of h b1
      by_cases y0 : xf_21 M (ro_sc v1) = true
      · have z : M.2.1 190 v1.toNatClampNeg = -1 := by
          have e : M.2.1 (ro_sc v1) 1 = -2 := by unfold xf_21 at y0; grind
          rcases S with q | q | q
          · exact q.2
          · rw [e] at q; exact absurd q.1 (by decide)
          · rw [e] at q; exact absurd q.1 (by decide)
        refine NO ?_ ?_ ?_ ?_ ?_
        · exact ⟨fun _ => ⟨fun _ => ⟨fun _ => trivial, fun y => absurd y0 y⟩, fun y => absurd b2 y⟩, fun y => absurd b1 y⟩
        · unfold xm_19; rw [if_pos b1, if_pos b2, if_pos y0]
        · exact ⟨fun _ => ⟨fun _ => ⟨s1, fun _ => ⟨s1, trivial⟩, fun y => absurd z y⟩, fun y => absurd (f2 _) y⟩, fun y => absurd (f1 _) y⟩
        · unfold xf_197 xf_19; rw [if_pos (f1 _), if_pos (f2 _), if_pos z, if_pos b1, if_pos b2, if_pos y0]
        · unfold xm_197; rw [if_pos (f1 _), if_pos (f2 _), if_pos z]
      · by_cases y1 : xf_22 M (ro_sc v1) = true
        · obtain ⟨g0, z, hz, g1, g2, g3⟩ := by_yes h b1 y1
          have e0 : M.2.1 (ro_sc v1) 1 = 0 := by unfold xf_22 at y1; grind
          have z2 : M.2.1 190 v1.toNatClampNeg = -2 := by
            rcases S with q | q | q
            · rw [e0] at q; exact absurd q.1 (by decide)
            · rw [e0] at q; exact absurd q.1 (by decide)
            · have := q.2.2.1; rw [e0] at this; rw [this]; decide
          have z1 : ¬ M.2.1 190 v1.toNatClampNeg = -1 := by rw [z2]; decide
          obtain ⟨m, hm, em⟩ : ∃ m, m ≤ 6 ∧ v3 = nI m := by
            have := ro_w13.mp b2
            exact nI_of2 (x := v3) (M := 6) (n := 6) (by decide) (by grind) this.2
          by_cases y2 : 0 ≤ v2
          · obtain ⟨i, hi, ei⟩ := nI_of (Int32.not_lt.mpr y2)
            have S0 : ∀ B : ro_Mm, (∀ c j, B.2.1 c j = M.2.1 c j) → pe_S M M B p := fun B hB => ⟨hp, e1, by rw [hB]; exact e2, fun y hy => by rw [hB, hB, hB, hB]; exact h.2.1.2.1 y hy, rfl, rfl, fun _ _ _ _ _ _ _ => rfl⟩
            -- the class alone, beside the reference over M
            obtain ⟨l1, l2, l3, ⟨q2, l4⟩, l5⟩ := pe_loop (M := M) (B0 := M) (fun _ => rfl) b1 hz hi hm g1 g2 g3 m 0 lp_N lp_N p M M (by omega) (lp_hug (by omega)) (lp_hug (by omega)) (S0 M (fun _ _ => rfl)) ⟨rfl, rfl, fun _ _ _ _ _ _ _ => rfl⟩
            have hm19 : xm_19 M v1 v2 v3 = (xg_23_3 lp_N M (nI 0) (ro_sc v1) (nI i) (nI m)).2.2.2 := by
              unfold xm_19 xm_23; rw [if_pos b1, if_pos b2, if_neg y0, if_pos y1, if_pos y2, ei, em]; rfl
            have hA : pe_S M (xm_19 M v1 v2 v3) (xg_197_58 lp_N M (nI 0) v1 (nI i) (nI m)).2.2.2 q2 := by rw [hm19]; exact l4
            have kA := hA.2.2.2.2.2.2
            have jA := hA.2.2.2.2.2.1
            have a1 : (xm_19 M v1 v2 v3).2.1 190 v1.toNatClampNeg = -2 := by rw [kA _ _ (by decide) (by decide) (by decide) (by decide) (by omega)]; exact z2
            have a2 : (xm_19 M v1 v2 v3).2.1 191 v1.toNatClampNeg = nI z := by rw [kA _ _ (by decide) (by decide) (by decide) (by decide) (by omega)]; exact g2
            have a0 : ¬ (xm_19 M v1 v2 v3).2.1 190 v1.toNatClampNeg = -1 := by rw [a1]; decide
            -- the reference over what the class left
            have S1 : pe_S M M (xm_19 M v1 v2 v3) p := by
              refine ⟨hp, e1, ?_, fun y hy => ?_, rfl, rfl, fun _ _ _ _ _ _ _ => rfl⟩
              · rw [kA _ _ (by decide) (by decide) (by decide) (by decide) (by omega)]; exact e2
              · rw [kA 164 y (by decide) (by decide) (by decide) (by decide) (by omega), kA 165 y (by decide) (by decide) (by decide) (by decide) (by omega), kA 166 y (by decide) (by decide) (by decide) (by decide) (by omega), kA 167 y (by decide) (by decide) (by decide) (by decide) (by omega)]
                exact h.2.1.2.1 y hy
            obtain ⟨r1, r2, r3, ⟨q3, r4⟩, r5⟩ := pe_loop (M := M) (B0 := xm_19 M v1 v2 v3) (fun j => by rw [jA]) b1 hz hi hm g1 a2 g3 m 0 lp_N lp_N p M (xm_19 M v1 v2 v3) (by omega) (lp_hug (by omega)) (lp_hug (by omega)) S1 ⟨rfl, rfl, fun _ _ _ _ _ _ _ => rfl⟩
            rw [← hm19] at r4
            refine ⟨?_, ?_, ?_, ?_⟩
            · unfold xp_19 xp_23
              rw [ei, em]
              rw [ei] at y2; rw [em] at b2
              exact ⟨fun _ => ⟨fun _ => ⟨fun y => absurd y y0, fun _ => ⟨fun _ => ⟨fun _ => ⟨⟨l1, trivial⟩, trivial⟩, fun y => absurd y2 y⟩, fun y => absurd y1 y⟩⟩, fun y => absurd b2 y⟩, fun y => absurd b1 y⟩
            · have r2 : xq_197_58 lp_N (xm_19 M v1 v2 v3) 0 v1 v2 v3 := by rw [ei, em]; rw [ei, em] at r2; exact r2
              exact ⟨fun _ => ⟨fun _ => ⟨s1, fun y => absurd y a0, fun _ => ⟨s1, fun _ => ⟨s1, r2, trivial⟩, fun y => absurd a1 y⟩⟩, fun y => absurd (f2 _) y⟩, fun y => absurd (f1 _) y⟩
            · have r3 : (if (xg_23_3 lp_N M 0 (ro_sc v1) v2 v3).1 = true then (xg_23_3 lp_N M 0 (ro_sc v1) v2 v3).2.1 else (xg_23_3 lp_N M 0 (ro_sc v1) v2 v3).2.2.1) = (if (xg_197_58 lp_N (xm_19 M v1 v2 v3) 0 v1 v2 v3).1 = true then (xg_197_58 lp_N (xm_19 M v1 v2 v3) 0 v1 v2 v3).2.1 else v3) := by
                rw [ei, em]; rw [ei, em] at r3; exact r3
              unfold xf_197 xf_19 xf_23
              rw [if_pos (f1 _), if_pos (f2 _), if_neg a0, if_pos a1, if_pos b1, if_pos b2, if_neg y0, if_pos y1, if_pos y2]
              exact r3.symm
            · have e : xm_197 (xm_19 M v1 v2 v3) v1 v2 v3 = (xg_197_58 lp_N (xm_19 M v1 v2 v3) (nI 0) v1 (nI i) (nI m)).2.2.2 := by
                unfold xm_197
                rw [if_pos (f1 _), if_pos (f2 _), if_neg a0, if_pos a1, ei, em]; rfl
              rw [e]
              exact pe_inv h r4 r5
          · have y3 : v2 < 0 := Int32.not_le.mp y2
            have c0 : ¬ v3 ≤ 0 := by have := (ro_w13.mp b2).1; grind
            have c1 : lg_cmp (v2.toInt64 + ((3 : Int32) * 0).toInt64) 0 < 0 := by
              have e : ((3 : Int32) * 0).toInt64 = 0 := by decide
              rw [e, Int64.add_zero]
              refine Int32.not_le.mp ?_
              rw [lg_cmp_ge, Int64.le_iff_toInt_le, Int32.toInt_toInt64]
              have := Int32.lt_iff_toInt_lt.mp y3
              have z0 : (0 : Int32).toInt = 0 := by decide
              have z64 : (0 : Int64).toInt = 0 := by decide
              omega
            obtain ⟨n, hn⟩ : ∃ n, lp_N = n + 1 := ⟨99999, lp_N_eq⟩
            have G : xg_197_58 lp_N M 0 v1 v2 v3 = (true, 0, 0, M) ∧ xq_197_58 lp_N M 0 v1 v2 v3 := by
              rw [hn, xg_197_58, xq_197_58, if_neg c0, if_pos c1]
              exact ⟨rfl, fun y => absurd y c0, fun _ => ⟨fun _ => trivial, fun y => absurd c1 y⟩⟩
            refine NO ?_ ?_ ?_ ?_ ?_
            · exact ⟨fun _ => ⟨fun _ => ⟨fun y => absurd y y0, fun _ => ⟨fun _ => ⟨fun y => absurd y y2, fun _ => trivial⟩, fun y => absurd y1 y⟩⟩, fun y => absurd b2 y⟩, fun y => absurd b1 y⟩
            · unfold xm_19; rw [if_pos b1, if_pos b2, if_neg y0, if_pos y1, if_neg y2]
            · exact ⟨fun _ => ⟨fun _ => ⟨s1, fun y => absurd y z1, fun _ => ⟨s1, fun _ => ⟨s1, G.2, trivial⟩, fun y => absurd z2 y⟩⟩, fun y => absurd (f2 _) y⟩, fun y => absurd (f1 _) y⟩
            · unfold xf_197 xf_19; rw [if_pos (f1 _), if_pos (f2 _), if_neg z1, if_pos z2, if_pos b1, if_pos b2, if_neg y0, if_pos y1, if_neg y2, G.1]; rfl
            · unfold xm_197; rw [if_pos (f1 _), if_pos (f2 _), if_neg z1, if_pos z2, G.1]
        · have e0 : ¬ M.2.1 (ro_sc v1) 1 = 0 := by unfold xf_22 at y1; grind
          have e00 : ¬ M.2.1 (ro_sc v1) 1 = -2 := by unfold xf_21 at y0; grind
          have z1 : ¬ M.2.1 190 v1.toNatClampNeg = -1 ∧ ¬ M.2.1 190 v1.toNatClampNeg = -2 := by
            rcases S with q | q | q
            · exact absurd q.1 e00
            · have q1 := q.2
              constructor <;> intro e <;> rw [e] at q1 <;> exact absurd q1 (by decide)
            · have q1 := q.1
              have q2 := q.2.1
              have q3 := q.2.2.1
              constructor <;> intro e <;> rw [e] at q3 <;> grind
          refine NO ?_ ?_ ?_ ?_ ?_
          · exact ⟨fun _ => ⟨fun _ => ⟨fun y => absurd y y0, fun _ => ⟨fun y => absurd y y1, fun _ => trivial⟩⟩, fun y => absurd b2 y⟩, fun y => absurd b1 y⟩
          · unfold xm_19; rw [if_pos b1, if_pos b2, if_neg y0, if_neg y1]
          · exact ⟨fun _ => ⟨fun _ => ⟨s1, fun y => absurd y z1.1, fun _ => ⟨s1, fun y => absurd y z1.2, fun _ => trivial⟩⟩, fun y => absurd (f2 _) y⟩, fun y => absurd (f1 _) y⟩
          · unfold xf_197 xf_19; rw [if_pos (f1 _), if_pos (f2 _), if_neg z1.1, if_neg z1.2, if_pos b1, if_pos b2, if_neg y0, if_neg y1]
          · unfold xm_197; rw [if_pos (f1 _), if_pos (f2 _), if_neg z1.1, if_neg z1.2]
    · have f2 : ¬ xf_195 M v3 1 6 = true := by rw [← ro_w13_195]; exact b2
      refine NO ?_ ?_ ?_ ?_ ?_
      · exact ⟨fun _ => ⟨fun y => absurd y b2, fun _ => trivial⟩, fun y => absurd b1 y⟩
      · unfold xm_19; rw [if_pos b1, if_neg b2]
      · exact ⟨fun _ => ⟨fun y => absurd y f2, fun _ => trivial⟩, fun _ => trivial⟩
      · unfold xf_197 xf_19; rw [if_pos (f1 _), if_neg f2, if_pos b1, if_neg b2]
      · unfold xm_197; rw [if_pos (f1 _), if_neg f2]
  · have f1 : ¬ xf_198 M v1 = true := by rw [ro_w198]; exact b1
    refine NO ?_ ?_ ?_ ?_ ?_
    · exact ⟨fun y => absurd y b1, fun _ => trivial⟩
    · unfold xm_19; rw [if_neg b1]
    · exact ⟨fun y => absurd y f1, fun _ => trivial⟩
    · unfold xf_197 xf_19; rw [if_neg f1, if_neg b1]
    · unfold xm_197; rw [if_neg f1]
end PEOPLE

