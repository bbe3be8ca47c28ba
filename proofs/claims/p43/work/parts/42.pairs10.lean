/-! pairs of calls, on: mend (by program, wip/whole/gen42.py) -/
section PAIRS10
variable {X : ro_Sx}
theorem all_2 {M : ro_Mm} (h : ro_Inv M) {n w v : Int32} : xp_202 (xm_27 M n w v) n w v ∧ xf_202 (xm_27 M n w v) n w v = xf_27 M n w v ∧ iv_r (xm_202 (xm_27 M n w v) n w v).2.1 ∧ iv_s (xm_202 (xm_27 M n w v) n w v).2.1 (xm_202 (xm_27 M n w v) n w v).2.2.1 := by
  by_cases q : xf_28 M n w = true
  · obtain ⟨hn, hw⟩ := me_in h q
    have s1 : xf_203 M n w = true := (ro_w28 h).trans q
    have e15 := (ro_w205 (M := M) (v := v) hw).1
    by_cases q2 : xf_15 M w v = true
    · have s2 : xf_205 M w v = true := e15.trans q2
      by_cases q3 : xf_30 M n w = v
      · obtain ⟨u1, u2, u3⟩ := me_was h hn hw
        have k1 : xm_27 M n w v = M := by unfold xm_27; rw [if_pos q, if_pos q2, if_pos q3]
        have k2 : xf_27 M n w v = xf_30 M n w := by unfold xf_27; rw [if_pos q, if_pos q2]
        have k3 : xm_202 M n w v = M := by unfold xm_202 xm_206; rw [if_pos s1, if_pos s2, u1, if_pos q3]
        have k4 : xf_202 M n w v = xf_30 M n w := by unfold xf_202 xf_206; rw [if_pos s1, if_pos s2, u1]
        rw [k1, k2, k3, k4]
        refine ⟨⟨fun _ => ⟨fun _ => ⟨⟨u2, fun _ => trivial, fun y => absurd (u1.trans q3) y⟩, trivial⟩, fun _ => trivial⟩, fun _ => trivial⟩, rfl, h.2⟩
      · obtain ⟨m1, m2, m3⟩ := me_all h q q2 q3
        have c1 : xf_203 (xm_27 M n w v) n w = true := by
          have e1 : (xm_27 M n w v).2.1 163 1 = M.2.1 163 1 := xwI_27 (by decide) (by decide) (by decide) (by decide) (by decide) (by decide) (by decide) (by decide) (by decide) (by decide)
          unfold xf_203 xf_204 at s1 ⊢
          rw [e1]
          exact s1
        have c2 : xf_205 (xm_27 M n w v) w v = true := s2
        have k2 : xf_27 M n w v = xf_30 M n w := by unfold xf_27; rw [if_pos q, if_pos q2]
        have k3 : xm_202 (xm_27 M n w v) n w v = xm_206 (xm_27 M n w v) w n v := by unfold xm_202; rw [if_pos c1, if_pos c2]
        have k4 : xf_202 (xm_27 M n w v) n w v = xf_30 M n w := by unfold xf_202; rw [if_pos c1, if_pos c2, m3]
        have kJ : (xm_206 (xm_27 M n w v) w n v).2.2.1 = M.2.2.1 := by
          funext c j
          exact xwJ_206.trans xwJ_27
        rw [k2, k3, k4, kJ]
        exact ⟨⟨fun _ => ⟨fun _ => ⟨m2, trivial⟩, fun _ => trivial⟩, fun _ => trivial⟩, rfl, m1⟩
    · have s2 : ¬ xf_205 M w v = true := by rw [e15]; exact q2
      have k1 : xm_27 M n w v = M := by unfold xm_27; rw [if_pos q, if_neg q2]
      have k2 : xf_27 M n w v = -1 := by unfold xf_27; rw [if_pos q, if_neg q2]
      have k3 : xm_202 M n w v = M := by unfold xm_202; rw [if_pos s1, if_neg s2]
      have k4 : xf_202 M n w v = -1 := by unfold xf_202; rw [if_pos s1, if_neg s2]
      rw [k1, k2, k3, k4]
      exact ⟨⟨fun _ => ⟨fun y => absurd y s2, fun _ => trivial⟩, fun _ => trivial⟩, rfl, h.2⟩
  · have s1 : ¬ xf_203 M n w = true := by rw [ro_w28 h]; exact q
    have k1 : xm_27 M n w v = M := by unfold xm_27; rw [if_neg q]
    have k2 : xf_27 M n w v = -1 := by unfold xf_27; rw [if_neg q]
    have k3 : xm_202 M n w v = M := by unfold xm_202; rw [if_neg s1]
    have k4 : xf_202 M n w v = -1 := by unfold xf_202; rw [if_neg s1]
    rw [k1, k2, k3, k4]
    exact ⟨⟨fun y => absurd y s1, fun _ => trivial⟩, rfl, h.2⟩
theorem pp_2 {M : ro_Mm} (h : ro_Inv M) {v1 v2 v3 : Int32} : xp_202 (xm_27 M v1 v2 v3) v1 v2 v3 := (all_2 h).1
theorem pe_2 {M : ro_Mm} (h : ro_Inv M) {v1 v2 v3 : Int32} : xf_202 (xm_27 M v1 v2 v3) v1 v2 v3 = xf_27 M v1 v2 v3 := (all_2 h).2.1
theorem pi_2 {M : ro_Mm} (h : ro_Inv M) {v1 v2 v3 : Int32} : ro_Inv (xm_202 (xm_27 M v1 v2 v3) v1 v2 v3) := ⟨xl_202 (xl_27 h.1) (pp_2 h), (all_2 h).2.2⟩
end PAIRS10

