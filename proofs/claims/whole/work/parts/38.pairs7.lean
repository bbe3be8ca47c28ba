/-! pairs of calls, on: offer (by program, wip/whole/gen38.py) -/
section PAIRS7
variable {X : ro_Sx}
theorem ro_two {M : ro_Mm} (h : ro_Inv M) {v : Int32} : xf_227 M v = xf_56 M v := by
  have e1 := ro_one_b h (v := v / 10)
  have e2 := ro_one_b h (v := ro_irem v 10)
  unfold xf_227 xf_56 xf_57
  rw [e1, e2]
  by_cases z : v < 0
  · rw [if_pos z, if_pos z]
  · rw [if_neg z, if_neg z]
    by_cases y : v / 10 = ro_irem v 10
    · rw [if_pos y, if_pos y]
      by_cases x : xf_29 M (ro_irem v 10) = true
      · rw [y, if_pos x, if_pos x, if_neg (by decide)]
      · rw [y, if_neg x, if_neg (by decide)]
    · rw [if_neg y, if_neg y]
      by_cases x : xf_29 M (v / 10) = true
      · rw [if_pos x]
        by_cases w : xf_29 M (ro_irem v 10) = true
        · rw [if_pos w, if_pos rfl]
        · rw [if_neg w, if_neg (by decide)]
      · rw [if_neg x, if_neg (by decide)]
theorem ro_one_i {M : ro_Mm} {p : Nat} (hp : p ≤ 6) (e1 : M.2.1 5 4 = nI p) {v : Int32} (hv : xf_29 M v = true) : ∃ i, i < p ∧ v = nI i := by
  have h6 : M.2.1 5 4 ≤ 6 := by rw [e1]; exact nI_le (b := 6) hp (by omega)
  rw [ro_w29 h6, e1] at hv
  exact ⟨v.toNatClampNeg, ro_clt (n := p) hv.1 hv.2 (by omega), ro_nI_of hv.1⟩
theorem ro_two_i {M : ro_Mm} {p : Nat} (hp : p ≤ 6) (e1 : M.2.1 5 4 = nI p) {v : Int32} (hv : xf_56 M v = true) : ∃ i j, i < p ∧ j < p ∧ i ≠ j ∧ v / 10 = nI i ∧ ro_irem v 10 = nI j := by
  have z : ¬ v < 0 := by
    intro z
    unfold xf_56 at hv
    rw [if_pos z] at hv
    exact absurd hv (by decide)
  have w : xf_57 M (v / 10) (ro_irem v 10) = true := by
    unfold xf_56 at hv
    rw [if_neg z] at hv
    by_cases y : xf_57 M (v / 10) (ro_irem v 10) = true
    · exact y
    · rw [if_neg y] at hv
      exact absurd hv (by decide)
  have n : ¬ v / 10 = ro_irem v 10 := by
    intro y
    unfold xf_57 at w
    rw [if_pos y] at w
    exact absurd w (by decide)
  have k1 : xf_29 M (v / 10) = true := by
    unfold xf_57 at w
    rw [if_neg n] at w
    by_cases y : xf_29 M (v / 10) = true
    · exact y
    · rw [if_neg y] at w
      exact absurd w (by decide)
  have k2 : xf_29 M (ro_irem v 10) = true := by
    unfold xf_57 at w
    rw [if_neg n, if_pos k1] at w
    by_cases y : xf_29 M (ro_irem v 10) = true
    · exact y
    · rw [if_neg y] at w
      exact absurd w (by decide)
  obtain ⟨i, hi, ei⟩ := ro_one_i hp e1 k1
  obtain ⟨j, hj, ej⟩ := ro_one_i hp e1 k2
  refine ⟨i, j, hi, hj, ?_, ei, ej⟩
  intro e
  rw [ei, ej, e] at n
  exact n rfl
theorem x228 {M : ro_Mm} {p : Nat} (hp : p ≤ 6) (hb : M.2.1 163 1 = nI p) : xm_228 M = (M.1, ro_cp4 M.2.1 181 182 164 165 0 p, M.2.2.1, M.2.2.2) ∧ xp_228 M := by
  have g := cl_228 hp p 0 lp_N M hb (by omega) (lp_big hp)
  rw [nI_0] at g
  exact ⟨g.1, g.2, trivial⟩
theorem x275 {M : ro_Mm} {p : Nat} (hp : p ≤ 6) (hb : M.2.1 163 1 = nI p) : xm_275 M = (M.1, ro_cp4 M.2.1 164 165 181 182 0 p, M.2.2.1, M.2.2.2) ∧ xp_275 M := by
  have g := cl_275 hp p 0 lp_N M hb (by omega) (lp_big hp)
  rw [nI_0] at g
  exact ⟨g.1, g.2, trivial⟩
/-- what agrees where it matters -/
def ro_eqv (M A : ro_Mm) : Prop := ro_lay A ∧ (∀ c j, ro_lv c j = true → A.2.1 c j = M.2.1 c j) ∧ (∀ c j, ro_lj c = true → A.2.2.1 c j = M.2.2.1 c j)
theorem ro_eqv_i {M A : ro_Mm} (h : ro_eqv M A) (g : ro_Inv M) : ro_Inv A := ro_Inv_c h.1 h.2.1 h.2.2 g
theorem ro_eqv_r {M : ro_Mm} (h : ro_lay M) : ro_eqv M M := ⟨h, fun _ _ _ => rfl, fun _ _ _ => rfl⟩
theorem ro_eqv_t {M A B : ro_Mm} (h : ro_eqv M A) (g : ro_eqv A B) : ro_eqv M B := ⟨g.1, fun c j e => (g.2.1 c j e).trans (h.2.1 c j e), fun c j e => (g.2.2 c j e).trans (h.2.2 c j e)⟩
theorem ro_lv_ne {c j : Nat} {d : Nat} (h : ro_lv c j = true) (hd : ro_lv d j = false) : c ≠ d := by
  intro e
  rw [e, hd] at h
  exact Bool.noConfusion h
theorem eq_228 {M : ro_Mm} (hL : ro_lay M) {p : Nat} (hp : p ≤ 6) (hb : M.2.1 163 1 = nI p) : ro_eqv M (xm_228 M) := by
  refine ⟨xl_228 hL (x228 hp hb).2, fun c j e => ?_, fun c j e => ?_⟩
  · rw [(x228 hp hb).1]
    have n1 := ro_lv_ne (d := 181) e rfl
    have n2 := ro_lv_ne (d := 182) e rfl
    show ro_cp4 M.2.1 181 182 164 165 0 p c j = _
    unfold ro_cp4
    rw [if_neg (fun q => n1 q.1), if_neg (fun q => n2 q.1)]
  · rw [(x228 hp hb).1]
end PAIRS7
