/-! pairs of calls, on: richest, dowry, taken (by program, wip/whole/gen36.py) -/
section PAIRS5
variable {X : ro_Sx}
theorem ro_w38 {M : ro_Mm} (hb : iv_b M.2.1) {k : Nat} (hk : k < 6) {v : Int32} : xf_38 M 6 (nI k) v = 4 * M.2.1 164 k + v * M.2.1 165 k := by
  obtain ⟨q1, q2, q3, q4⟩ := ro_n6 hk
  have b := hb k hk
  unfold xf_38 xf_31 xf_32
  rw [if_neg q1, if_neg q2, if_neg q1, if_neg q2, q3, b.1.1, b.2.1.1]
theorem ro_nple {k p : Nat} (h : p ≤ k) (hk : k ≤ 7) : nI p ≤ nI k := nI_le h (by omega)
theorem cl_118 {M : ro_Mm} (hb : iv_b M.2.1) {p : Nat} (hp : p ≤ 6) (e1 : M.2.1 5 4 = nI p) (e2 : M.2.1 163 1 = nI p) {v s w : Int32} : ∀ (d k n b : Nat), p ≤ k + d → k ≤ 7 → b < 6 → d < n →
    ((xg_118_4 n M (nI k) (nI b) v).2 = (xg_267_25 n M (nI k) (nI b) v s w).2 ∧ xq_118_4 n M (nI k) (nI b) v ∧ xq_267_25 n M (nI k) (nI b) v s w) := by
  intro d
  induction d with
  | zero =>
    intro k n b hk hk7 hb6 hn
    cases n with
    | zero => omega
    | succ n =>
      have q := ro_nple (show p ≤ k by omega) hk7
      rw [xg_118_4, xg_267_25, xq_118_4, xq_267_25, e1, e2, if_pos q, if_pos q]
      exact ⟨rfl, ⟨fun _ => trivial, fun z => absurd q z⟩, ⟨fun _ => trivial, fun z => absurd q z⟩⟩
  | succ d ih =>
    intro k n b hk hk7 hb6 hn
    cases n with
    | zero => omega
    | succ n =>
      by_cases hkp : k < p
      · have hk6 : k < 6 := by omega
        obtain ⟨q1, q2, q3, q4⟩ := ro_n6 hk6
        obtain ⟨r1, r2, r3, r4⟩ := ro_n6 hb6
        have q5 := ro_npk hkp hp
        obtain ⟨i1, i2, i3⟩ := ih (k + 1) n b (by omega) (by omega) hb6 (by omega)
        obtain ⟨j1, j2, j3⟩ := ih (k + 1) n k (by omega) (by omega) hk6 (by omega)
        rw [xg_118_4, xg_267_25, xq_118_4, xq_267_25, e1, e2, if_neg q5, if_neg q5, ro_w38 hb hk6, ro_w38 hb hb6, q3, r3, ← nI_succ]
        by_cases z : 4 * M.2.1 164 k + v * M.2.1 165 k ≤ 4 * M.2.1 164 b + v * M.2.1 165 b
        · rw [if_pos z, if_pos z]
          exact ⟨i1, ⟨fun _ => trivial, fun _ => ⟨fun _ => i2, fun q => absurd z q⟩⟩, ⟨fun _ => trivial, fun _ => ⟨q4, q4, r4, r4, fun _ => i3, fun q => absurd z q⟩⟩⟩
        · rw [if_neg z, if_neg z]
          exact ⟨j1, ⟨fun _ => trivial, fun _ => ⟨fun q => absurd q z, fun _ => j2⟩⟩, ⟨fun _ => trivial, fun _ => ⟨q4, q4, r4, r4, fun q => absurd q z, fun _ => j3⟩⟩⟩
      · have q := ro_nple (show p ≤ k by omega) hk7
        rw [xg_118_4, xg_267_25, xq_118_4, xq_267_25, e1, e2, if_pos q, if_pos q]
        exact ⟨rfl, ⟨fun _ => trivial, fun z => absurd q z⟩, ⟨fun _ => trivial, fun z => absurd q z⟩⟩
theorem cl_118s {M : ro_Mm} (h : ro_Inv M) {v s w : Int32} : (xg_267_25 lp_N M 1 0 v s w).2 = xf_118 M v ∧ xp_118 M v ∧ xq_267_25 lp_N M 1 0 v s w := by
  obtain ⟨p, hp, e1, e2⟩ := ro_ppl h
  have g : (xg_118_4 lp_N M 1 0 v).2 = (xg_267_25 lp_N M 1 0 v s w).2 ∧ xq_118_4 lp_N M 1 0 v ∧ xq_267_25 lp_N M 1 0 v s w := cl_118 h.2.1.2.1 hp e1 e2 (v := v) (s := s) (w := w) 6 1 lp_N 0 (by omega) (by omega) (by omega) (lp_big (by omega))
  exact ⟨g.1.symm, ⟨g.2.1, trivial⟩, g.2.2⟩
theorem cl_117 {M : ro_Mm} (h : ro_Inv M) {w : Int32} : ∀ (d k n : Nat) (s : Int32), k + d = 5 → d < n →
    ((xg_117_17 n M (nI k) s w).2 = (xg_267_14 n M (nI k) s w).2 ∧ xq_117_17 n M (nI k) s w ∧ xq_267_14 n M (nI k) s w) := by
  intro d
  induction d with
  | zero =>
    intro k n s hk hn
    cases n with
    | zero => omega
    | succ n =>
      have e : k = 5 := by omega
      have q : (4 : Int32) < nI k := by rw [e]; decide
      rw [xg_117_17, xg_267_14, xq_117_17, xq_267_14, if_pos q, if_pos q]
      exact ⟨rfl, ⟨fun _ => trivial, fun z => absurd q z⟩, ⟨fun _ => trivial, fun z => absurd q z⟩⟩
  | succ d ih =>
    intro k n s hk hn
    cases n with
    | zero => omega
    | succ n =>
      have q : ¬ (4 : Int32) < nI k := by
        rcases (show k = 0 ∨ k = 1 ∨ k = 2 ∨ k = 3 ∨ k = 4 by omega) with e | e | e | e | e <;> rw [e] <;> decide
      obtain ⟨g1, g2, g3⟩ := cl_118s h (v := nI k) (s := s) (w := w)
      obtain ⟨i1, i2, i3⟩ := ih (k + 1) n s (by omega) (by omega)
      obtain ⟨j1, j2, j3⟩ := ih (k + 1) n (s ||| ((1 : Int32) <<< (nI k &&& 31))) (by omega) (by omega)
      rw [xg_117_17, xg_267_14, xq_117_17, xq_267_14, if_neg q, if_neg q, g1, ← nI_succ]
      by_cases z : xf_118 M (nI k) = w
      · rw [if_pos z, if_pos z]
        exact ⟨j1, ⟨fun _ => trivial, fun _ => ⟨g2, fun _ => j2, fun q => absurd z q⟩⟩, ⟨fun _ => trivial, fun _ => ⟨g3, fun _ => j3, fun q => absurd z q⟩⟩⟩
      · rw [if_neg z, if_neg z]
        exact ⟨i1, ⟨fun _ => trivial, fun _ => ⟨g2, fun q => absurd q z, fun _ => i2⟩⟩, ⟨fun _ => trivial, fun _ => ⟨g3, fun q => absurd q z, fun _ => i3⟩⟩⟩
theorem cl_117s {M : ro_Mm} (h : ro_Inv M) {w : Int32} : (xg_117_17 lp_N M 0 0 w).2 = (xg_267_14 lp_N M 0 0 w).2 ∧ xq_117_17 lp_N M 0 0 w ∧ xq_267_14 lp_N M 0 0 w :=
  cl_117 h (w := w) 5 0 lp_N 0 (by omega) (lp_big (by omega))
theorem ro_one_b {M : ro_Mm} (h : ro_Inv M) {v : Int32} : xf_204 M v = xf_29 M v := by
  obtain ⟨ha1, ha2, ha3, ha4⟩ := h.2.1.1
  rw [Bool.eq_iff_iff, ro_w29 ha3, ro_w204 (by rw [ha1]; exact ha2), ha1]
theorem pc_19 {M : ro_Mm} (h : ro_Inv M) {v1 : Int32} : xp_117 M v1 := ⟨fun _ => ⟨(cl_117s h).2.1, trivial⟩, fun _ => trivial⟩
theorem pp_19 {M : ro_Mm} (h : ro_Inv M) {v1 : Int32} : xp_267 M v1 := ⟨fun _ => ⟨(cl_117s h).2.2, trivial⟩, fun _ => trivial⟩
theorem pe_19 {M : ro_Mm} (h : ro_Inv M) {v1 : Int32} : xf_267 M v1 = xf_117 M v1 := by
  unfold xf_267 xf_117
  rw [ro_one_b h, (cl_117s h).1]
theorem cl_266z {M : ro_Mm} {p : Nat} (hp : p ≤ 6) (e2 : M.2.1 163 1 = nI p) {s w : Int32} : ∀ (d k n : Nat) (b : Int32), k + d = p → d < n →
    ((xg_266_36 n M (nI k) b 0 s w).2 = (b, 0) ∧ xq_266_36 n M (nI k) b 0 s w) := by
  intro d
  induction d with
  | zero =>
    intro k n b hk hn
    cases n with
    | zero => omega
    | succ n =>
      have e : k = p := by omega
      have q := ro_n66 hp
      rw [e, xg_266_36, xq_266_36, e2, if_pos q]
      exact ⟨rfl, fun _ => trivial, fun z => absurd q z⟩
  | succ d ih =>
    intro k n b hk hn
    cases n with
    | zero => omega
    | succ n =>
      have q := ro_npk (show k < p by omega) hp
      obtain ⟨i1, i2⟩ := ih (k + 1) n b (by omega) (by omega)
      rw [xg_266_36, xq_266_36, e2, if_neg q, ← nI_succ]
      by_cases z : ((s >>> (nI k &&& 31)) &&& (1 : Int32)) = 0
      · rw [if_pos z]
        exact ⟨i1, fun y => absurd y q, fun _ => ⟨fun _ => i2, fun y => absurd z y⟩⟩
      · rw [if_neg z, if_pos rfl]
        exact ⟨i1, fun y => absurd y q, fun _ => ⟨fun y => absurd y z, fun _ => ⟨fun _ => i2, fun y => absurd rfl y⟩⟩⟩
theorem cl_116 {M : ro_Mm} (hb : iv_b M.2.1) {p : Nat} (hp : p ≤ 6) (e1 : M.2.1 5 4 = nI p) (e2 : M.2.1 163 1 = nI p) {s w : Int32} : ∀ (d k n : Nat) (b l : Int32), k + d = p → d < n → 0 ≤ l →
    ((xg_116_39 n M (nI k) b l s w).2 = (xg_266_36 n M (nI k) b l s w).2 ∧ xq_116_39 n M (nI k) b l s w ∧ xq_266_36 n M (nI k) b l s w) := by
  have e0 : xf_18 M = nI p := e1
  intro d
  induction d with
  | zero =>
    intro k n b l hk hn hl
    cases n with
    | zero => omega
    | succ n =>
      have e : k = p := by omega
      have q := ro_n66 hp
      rw [e, xg_116_39, xg_266_36, xq_116_39, xq_266_36, e0, e2, if_pos q, if_pos q]
      exact ⟨rfl, ⟨fun _ => trivial, fun z => absurd q z⟩, fun _ => trivial, fun z => absurd q z⟩
  | succ d ih =>
    intro k n b l hk hn hl
    by_cases hz : l = 0
    · obtain ⟨i1, i2⟩ := cl_266z hp e2 (s := s) (w := w) (d + 1) k n b hk hn
      rw [hz]
      refine ⟨?_, ?_, i2⟩
      · rw [i1]
        cases n with
        | zero => omega
        | succ n =>
          have q := ro_npk (show k < p by omega) hp
          rw [xg_116_39, e0, if_neg q, if_pos (by decide)]
      · cases n with
        | zero => omega
        | succ n =>
          have q := ro_npk (show k < p by omega) hp
          rw [xq_116_39, e0]
          exact ⟨fun y => absurd y q, fun _ => ⟨fun _ => trivial, fun y => absurd (by decide) y⟩⟩
    · cases n with
      | zero => omega
      | succ n =>
        have hk6 : k < 6 := by omega
        have q := ro_npk (show k < p by omega) hp
        have hl1 : ¬ l ≤ 0 := by grind
        obtain ⟨q1, q2, q3, q4⟩ := ro_n6 hk6
        have hbk := (hb k hk6).1
        have f0 : xf_30 M (nI k) 0 = M.2.1 164 k := by
          unfold xf_30 xf_31
          rw [if_pos rfl, if_neg q1, if_neg q2, q3, hbk.1]
        have hw : 0 ≤ M.2.1 164 k := by rw [hbk.1]; exact hbk.2.1
        rw [xg_116_39, xg_266_36, xq_116_39, xq_266_36, e0, e2, if_neg q, if_neg q, if_neg hl1, if_neg hz, f0, q3, ← nI_succ]
        by_cases z : ((s >>> (nI k &&& 31)) &&& (1 : Int32)) = 0
        · obtain ⟨i1, i2, i3⟩ := ih (k + 1) n b l (by omega) (by omega) hl
          have e3 : l - ro_min 0 l = l := by unfold ro_min; rw [if_neg (by grind)]; grind
          rw [if_pos z, if_pos z, e3]
          exact ⟨i1, ⟨fun y => absurd y q, fun _ => ⟨fun y => absurd y hl1, fun _ => ⟨fun _ => i2, fun y => absurd z y⟩⟩⟩, fun y => absurd y q, fun _ => ⟨fun _ => i3, fun y => absurd z y⟩⟩
        · rw [if_neg z, if_neg z]
          by_cases c1 : l < M.2.1 164 k
          · have e3 : l - ro_min (M.2.1 164 k) l = l - l := by unfold ro_min; rw [if_pos c1]
            have c2 : ¬ M.2.1 164 k ≤ 0 := by grind
            have c3 : l ≤ M.2.1 164 k := by grind
            obtain ⟨i1, i2, i3⟩ := ih (k + 1) n b (l - l) (by omega) (by omega) (by grind)
            rw [if_neg c2, if_pos c1, if_pos c1, if_pos c3, e3]
            exact ⟨i1, ⟨fun y => absurd y q, fun _ => ⟨fun y => absurd y hl1, fun _ => ⟨fun y => absurd y z, fun _ => ⟨fun y => absurd y c2, fun _ => ⟨fun _ => i2, fun y => absurd c1 y⟩⟩⟩⟩⟩, fun y => absurd y q, fun _ => ⟨fun y => absurd y z, fun _ => ⟨fun y => absurd y hz, fun _ => ⟨q4, fun _ => ⟨q4, fun _ => i3, fun y => absurd c3 y⟩, fun y => absurd c1 y⟩⟩⟩⟩
          · by_cases c2 : M.2.1 164 k ≤ 0
            · have c3 : ¬ l ≤ M.2.1 164 k := by grind
              have e3 : l - ro_min (M.2.1 164 k) l = l - M.2.1 164 k := by unfold ro_min; rw [if_neg c1]
              obtain ⟨i1, i2, i3⟩ := ih (k + 1) n b (l - M.2.1 164 k) (by omega) (by omega) (by grind)
              rw [if_pos c2, if_neg c1, if_pos c2, if_neg c3, e3]
              exact ⟨i1, ⟨fun y => absurd y q, fun _ => ⟨fun y => absurd y hl1, fun _ => ⟨fun y => absurd y z, fun _ => ⟨fun _ => i2, fun y => absurd c2 y⟩⟩⟩⟩, fun y => absurd y q, fun _ => ⟨fun y => absurd y z, fun _ => ⟨fun y => absurd y hz, fun _ => ⟨q4, fun y => absurd y c1, fun _ => ⟨q4, fun _ => ⟨q4, fun y => absurd y c3, fun _ => ⟨q4, i3⟩⟩, fun y => absurd c2 y⟩⟩⟩⟩⟩
            · by_cases c3 : l ≤ M.2.1 164 k
              · have e3 : l - ro_min (M.2.1 164 k) l = l - l := by unfold ro_min; rw [if_neg c1]; grind
                obtain ⟨i1, i2, i3⟩ := ih (k + 1) n (b ||| ((1 : Int32) <<< (nI k &&& 31))) (l - l) (by omega) (by omega) (by grind)
                rw [if_neg c2, if_neg c1, if_neg c1, if_neg c2, if_pos c3, e3]
                exact ⟨i1, ⟨fun y => absurd y q, fun _ => ⟨fun y => absurd y hl1, fun _ => ⟨fun y => absurd y z, fun _ => ⟨fun y => absurd y c2, fun _ => ⟨fun y => absurd y c1, fun _ => i2⟩⟩⟩⟩⟩, fun y => absurd y q, fun _ => ⟨fun y => absurd y z, fun _ => ⟨fun y => absurd y hz, fun _ => ⟨q4, fun y => absurd y c1, fun _ => ⟨q4, fun y => absurd y c2, fun _ => ⟨q4, fun _ => i3, fun y => absurd c3 y⟩⟩⟩⟩⟩⟩
              · have e3 : l - ro_min (M.2.1 164 k) l = l - M.2.1 164 k := by unfold ro_min; rw [if_neg c1]
                obtain ⟨i1, i2, i3⟩ := ih (k + 1) n (b ||| ((1 : Int32) <<< (nI k &&& 31))) (l - M.2.1 164 k) (by omega) (by omega) (by grind)
                rw [if_neg c2, if_neg c1, if_neg c1, if_neg c2, if_neg c3, e3]
                exact ⟨i1, ⟨fun y => absurd y q, fun _ => ⟨fun y => absurd y hl1, fun _ => ⟨fun y => absurd y z, fun _ => ⟨fun y => absurd y c2, fun _ => ⟨fun y => absurd y c1, fun _ => i2⟩⟩⟩⟩⟩, fun y => absurd y q, fun _ => ⟨fun y => absurd y z, fun _ => ⟨fun y => absurd y hz, fun _ => ⟨q4, fun y => absurd y c1, fun _ => ⟨q4, fun y => absurd y c2, fun _ => ⟨q4, fun y => absurd y c3, fun _ => ⟨q4, i3⟩⟩⟩⟩⟩⟩⟩
theorem cl_116s {M : ro_Mm} (h : ro_Inv M) {s w : Int32} (hw : 0 ≤ w) : (xg_116_39 lp_N M 0 0 w s w).2 = (xg_266_36 lp_N M 0 0 w s w).2 ∧ xq_116_39 lp_N M 0 0 w s w ∧ xq_266_36 lp_N M 0 0 w s w := by
  obtain ⟨p, hp, e1, e2⟩ := ro_ppl h
  exact cl_116 h.2.1.2.1 hp e1 e2 (s := s) (w := w) p 0 lp_N 0 w (by omega) (lp_big hp) hw
theorem pc_18 {M : ro_Mm} (h : ro_Inv M) {v1 v2 : Int32} : xp_116 M v1 v2 := ⟨fun _ => ⟨fun y => ⟨(cl_116s h (ro_w13.mp y).1).2.1, trivial⟩, fun _ => trivial⟩, fun _ => trivial⟩
theorem pp_18 {M : ro_Mm} (h : ro_Inv M) {v1 v2 : Int32} : xp_266 M v1 v2 := ⟨fun _ => ⟨fun y => ⟨(cl_116s h (ro_w195.mp y).1).2.2, trivial⟩, fun _ => trivial⟩, fun _ => trivial⟩
theorem ro_w13_195 {M : ro_Mm} {v a b : Int32} : xf_13 M v a b = xf_195 M v a b := by rw [Bool.eq_iff_iff, ro_w13, ro_w195]
theorem pe_18 {M : ro_Mm} (h : ro_Inv M) {v1 v2 : Int32} : xf_266 M v1 v2 = xf_116 M v1 v2 := by
  have e0 : xf_18 M = M.2.1 163 1 := h.2.1.1.1.symm
  unfold xf_266 xf_116
  rw [e0, ro_w13_195, ro_w13_195]
  by_cases hw : 0 ≤ v2
  · rw [(cl_116s h (s := v1) hw).1]
  · have e3 : xf_195 M v2 0 99 = false := by grind [xf_195]
    rw [e3]
    simp only [if_neg (show ¬ (false = true) by decide)]
end PAIRS5

