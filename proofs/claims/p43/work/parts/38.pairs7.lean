/-! pairs of calls, on: offer (by program, wip/whole/gen38.py) -/
section PAIRS7
variable {X : ro_Sx}
theorem ro_two {M : ro_Mm} (h : ro_Inv M) {v : Int32} : xf_227 M v = xf_56 M v := by
  have e1 := ro_one_b h (v := v / 10)
  have e2 := ro_one_b h (v := ro_irem v 10)
  unfold xf_227 xf_56 xf_57
  rw [e1, e2]
  by_cases z : v < 0
  · rw [if_pos z, if_pos z]
  · rw [if_neg z, if_neg z]
    by_cases y : v / 10 = ro_irem v 10
    · rw [if_pos y, if_pos y]
      by_cases x : xf_29 M (ro_irem v 10) = true
      · rw [y, if_pos x, if_pos x, if_neg (by decide)]
      · rw [y, if_neg x, if_neg (by decide)]
    · rw [if_neg y, if_neg y]
      by_cases x : xf_29 M (v / 10) = true
      · rw [if_pos x]
        by_cases w : xf_29 M (ro_irem v 10) = true
        · rw [if_pos w, if_pos rfl]
        · rw [if_neg w, if_neg (by decide)]
      · rw [if_neg x, if_neg (by decide)]
theorem ro_one_i {M : ro_Mm} {p : Nat} (hp : p ≤ 6) (e1 : M.2.1 5 4 = nI p) {v : Int32} (hv : xf_29 M v = true) : ∃ i, i < p ∧ v = nI i := by
  have h6 : M.2.1 5 4 ≤ 6 := by rw [e1]; exact nI_le (b := 6) hp (by omega)
  rw [ro_w29 h6, e1] at hv
  exact ⟨v.toNatClampNeg, ro_clt (n := p) hv.1 hv.2 (by omega), ro_nI_of hv.1⟩
theorem ro_two_i {M : ro_Mm} {p : Nat} (hp : p ≤ 6) (e1 : M.2.1 5 4 = nI p) {v : Int32} (hv : xf_56 M v = true) : ∃ i j, i < p ∧ j < p ∧ i ≠ j ∧ v / 10 = nI i ∧ ro_irem v 10 = nI j := by
  have z : ¬ v < 0 := by
    intro z
    unfold xf_56 at hv
    rw [if_pos z] at hv
    exact absurd hv (by decide)
  have w : xf_57 M (v / 10) (ro_irem v 10) = true := by
    unfold xf_56 at hv
    rw [if_neg z] at hv
    by_cases y : xf_57 M (v / 10) (ro_irem v 10) = true
    · exact y
    · rw [if_neg y] at hv
      exact absurd hv (by decide)
  have n : ¬ v / 10 = ro_irem v 10 := by
    intro y
    unfold xf_57 at w
    rw [if_pos y] at w
    exact absurd w (by decide)
  have k1 : xf_29 M (v / 10) = true := by
    unfold xf_57 at w
    rw [if_neg n] at w
    by_cases y : xf_29 M (v / 10) = true
    · exact y
    · rw [if_neg y] at w
      exact absurd w (by decide)
  have k2 : xf_29 M (ro_irem v 10) = true := by
    unfold xf_57 at w
    rw [if_neg n, if_pos k1] at w
    by_cases y : xf_29 M (ro_irem v 10) = true
    · exact y
    · rw [if_neg y] at w
      exact absurd w (by decide)
  obtain ⟨i, hi, ei⟩ := ro_one_i hp e1 k1
  obtain ⟨j, hj, ej⟩ := ro_one_i hp e1 k2
  refine ⟨i, j, hi, hj, ?_, ei, ej⟩
  intro e
  rw [ei, ej, e] at n
  exact n rfl
theorem x228 {M : ro_Mm} {p : Nat} (hp : p ≤ 6) (hb : M.2.1 163 1 = nI p) : xm_228 M = (M.1, ro_cp4 M.2.1 181 182 164 165 0 p, M.2.2.1, M.2.2.2) ∧ xp_228 M := by
  have g := cl_228 hp p 0 lp_N M hb (by omega) (lp_big hp)
  rw [nI_0] at g
  exact ⟨g.1, g.2, trivial⟩
theorem x275 {M : ro_Mm} {p : Nat} (hp : p ≤ 6) (hb : M.2.1 163 1 = nI p) : xm_275 M = (M.1, ro_cp4 M.2.1 164 165 181 182 0 p, M.2.2.1, M.2.2.2) ∧ xp_275 M := by
  have g := cl_275 hp p 0 lp_N M hb (by omega) (lp_big hp)
  rw [nI_0] at g
  exact ⟨g.1, g.2, trivial⟩
/-- what agrees where it matters -/
def ro_eqv (M A : ro_Mm) : Prop := ro_lay A ∧ (∀ c j, ro_lv c j = true → A.2.1 c j = M.2.1 c j) ∧ (∀ c j, ro_lj c = true → A.2.2.1 c j = M.2.2.1 c j)
theorem ro_eqv_i {M A : ro_Mm} (h : ro_eqv M A) (g : ro_Inv M) : ro_Inv A := ro_Inv_c h.1 h.2.1 h.2.2 g
theorem ro_eqv_r {M : ro_Mm} (h : ro_lay M) : ro_eqv M M := ⟨h, fun _ _ _ => rfl, fun _ _ _ => rfl⟩
theorem ro_eqv_t {M A B : ro_Mm} (h : ro_eqv M A) (g : ro_eqv A B) : ro_eqv M B := ⟨g.1, fun c j e => (g.2.1 c j e).trans (h.2.1 c j e), fun c j e => (g.2.2 c j e).trans (h.2.2 c j e)⟩
theorem ro_lv_ne {c j : Nat} {d : Nat} (h : ro_lv c j = true) (hd : ro_lv d j = false) : c ≠ d := by
  intro e
  rw [e, hd] at h
  exact Bool.noConfusion h
theorem eq_228 {M : ro_Mm} (hL : ro_lay M) {p : Nat} (hp : p ≤ 6) (hb : M.2.1 163 1 = nI p) : ro_eqv M (xm_228 M) := by
  refine ⟨xl_228 hL (x228 hp hb).2, fun c j e => ?_, fun c j e => ?_⟩
  · rw [(x228 hp hb).1]
    have n1 := ro_lv_ne (d := 181) e rfl
    have n2 := ro_lv_ne (d := 182) e rfl
    show ro_cp4 M.2.1 181 182 164 165 0 p c j = _
    unfold ro_cp4
    rw [if_neg (fun q => n1 q.1), if_neg (fun q => n2 q.1)]
  · rw [(x228 hp hb).1]
theorem x16 {M : ro_Mm} {c i : Nat} {v : Int32} (h : i < 6) : xm_16 M c (nI i) v = ro_sI M (c + 1) i v := by
  obtain ⟨q1, q2, q3, q4⟩ := ro_n6 h
  unfold xm_16
  rw [if_neg q1, if_neg q2, q3]
theorem x17 {M : ro_Mm} {c i : Nat} {v : Int32} (h : i < 6) : xm_17 M c (nI i) v = ro_sI M (c + 2) i v := by
  obtain ⟨q1, q2, q3, q4⟩ := ro_n6 h
  unfold xm_17
  rw [if_neg q1, if_neg q2, q3]
theorem x31 {M : ro_Mm} {c i : Nat} (h : i < 6) : xf_31 M c (nI i) = M.2.1 (c + 1) i := by
  obtain ⟨q1, q2, q3, q4⟩ := ro_n6 h
  unfold xf_31
  rw [if_neg q1, if_neg q2, q3]
theorem x32 {M : ro_Mm} {c i : Nat} (h : i < 6) : xf_32 M c (nI i) = M.2.1 (c + 2) i := by
  obtain ⟨q1, q2, q3, q4⟩ := ro_n6 h
  unfold xf_32
  rw [if_neg q1, if_neg q2, q3]
theorem x145 {M : ro_Mm} : xm_145 M 0 = ro_sI M 11 0 (M.2.1 11 0 + 1) ∧ xm_145 M 1 = ro_sI M 11 1 (M.2.1 11 1 + 1) := ⟨rfl, rfl⟩
/-- a whole coin goes, one is refused, a notched one goes: purses at c -/
theorem x78 {M : ro_Mm} {c i j : Nat} (hi : i < 6) (hj : j < 6) (hij : i ≠ j) : xm_78 M c (nI i) (nI j) = ro_sI (ro_sI M (c + 1) i (M.2.1 (c + 1) i - 1)) (c + 1) j (M.2.1 (c + 1) j + 1) := by
  unfold xm_78
  rw [x31 hi, x16 hi, x31 hj, x16 hj, ro_sI_u, ro_up_p (fun e => hij e.symm)]
theorem x74 {M : ro_Mm} {c i j : Nat} (hi : i < 6) (hj : j < 6) (hij : i ≠ j) : xm_74 M c (nI i) (nI j) = ro_sI (ro_sI M (c + 2) i (M.2.1 (c + 2) i - 1)) (c + 2) j (M.2.1 (c + 2) j + 1) := by
  unfold xm_74
  rw [x32 hi, x17 hi, x32 hj, x17 hj, ro_sI_u, ro_up_p (fun e => hij e.symm)]
theorem x77 {M : ro_Mm} {c i : Nat} (hi : i < 6) : xm_77 M c (nI i) = ro_sI (ro_sI M (c + 1) i (M.2.1 (c + 1) i - 1)) (c + 2) i (M.2.1 (c + 2) i + 1) := by
  unfold xm_77
  rw [x31 hi, x16 hi, x32 hi, x17 hi, ro_sI_u, ro_up_o (by omega)]
theorem x245 {M : ro_Mm} {i j : Nat} (hi : i < 6) (hj : j < 6) (hij : i ≠ j) : xm_245 M (nI i) (nI j) = ro_sI (ro_sI M 181 i (M.2.1 181 i - 1)) 181 j (M.2.1 181 j + 1) ∧ xp_245 M (nI i) (nI j) := by
  obtain ⟨_, _, q3, q4⟩ := ro_n6 hi
  obtain ⟨_, _, r3, r4⟩ := ro_n6 hj
  refine ⟨?_, q4, q4, r4, r4, trivial⟩
  unfold xm_245
  rw [q3, r3, ro_sI_u, ro_up_p (fun e => hij e.symm)]
theorem x242 {M : ro_Mm} {i j : Nat} (hi : i < 6) (hj : j < 6) (hij : i ≠ j) : xm_242 M (nI i) (nI j) = ro_sI (ro_sI M 182 i (M.2.1 182 i - 1)) 182 j (M.2.1 182 j + 1) ∧ xp_242 M (nI i) (nI j) := by
  obtain ⟨_, _, q3, q4⟩ := ro_n6 hi
  obtain ⟨_, _, r3, r4⟩ := ro_n6 hj
  refine ⟨?_, q4, q4, r4, r4, trivial⟩
  unfold xm_242
  rw [q3, r3, ro_sI_u, ro_up_p (fun e => hij e.symm)]
theorem x244 {M : ro_Mm} {i : Nat} (hi : i < 6) : xm_244 M (nI i) = ro_sI (ro_sI M 181 i (M.2.1 181 i - 1)) 182 i (M.2.1 182 i + 1) ∧ xp_244 M (nI i) := by
  obtain ⟨_, _, q3, q4⟩ := ro_n6 hi
  refine ⟨?_, q4, q4, q4, q4, trivial⟩
  unfold xm_244
  rw [q3]
/-- may they: the class's purses at c, the reference's -/
theorem x75 {M A : ro_Mm} {c i j : Nat} (hi : i < 6) (hj : j < 6) (e1 : A.2.1 181 i = M.2.1 (c + 1) i) (e2 : A.2.1 181 j = M.2.1 (c + 1) j) (e3 : A.2.1 182 i = M.2.1 (c + 2) i) : xf_241 A (nI i) (nI j) = xf_75 M c (nI i) (nI j) ∧ xp_241 A (nI i) (nI j) := by
  obtain ⟨_, _, q3, q4⟩ := ro_n6 hi
  obtain ⟨_, _, r3, r4⟩ := ro_n6 hj
  refine ⟨?_, q4, fun _ => trivial, fun _ => ⟨q4, fun _ => trivial, fun _ => ⟨r4, trivial⟩⟩⟩
  unfold xf_241 xf_75
  rw [x31 hi, x31 hj, x32 hi, q3, r3, e1, e2, e3]
  by_cases z1 : M.2.1 (c + 1) i ≤ 0
  · rw [if_pos z1, if_pos z1]
  · rw [if_neg z1, if_neg z1]
    by_cases z2 : 20 ≤ M.2.1 (c + 2) i
    · rw [if_pos z2, if_pos z2]
      by_cases z3 : 20 ≤ M.2.1 (c + 1) j
      · rw [if_pos z3]
      · rw [if_neg z3]
    · rw [if_neg z2, if_neg z2]
theorem x73 {M A : ro_Mm} {c i j : Nat} (hi : i < 6) (hj : j < 6) (e1 : A.2.1 182 i = M.2.1 (c + 2) i) (e2 : A.2.1 182 j = M.2.1 (c + 2) j) : xf_240 A (nI i) (nI j) = xf_73 M c (nI i) (nI j) ∧ xp_240 A (nI i) (nI j) := by
  obtain ⟨_, _, q3, q4⟩ := ro_n6 hi
  obtain ⟨_, _, r3, r4⟩ := ro_n6 hj
  refine ⟨?_, q4, fun _ => trivial, fun _ => ⟨r4, trivial⟩⟩
  unfold xf_240 xf_73
  rw [x32 hi, x32 hj, q3, r3, e1, e2]
theorem ml_228 {C : ro_Mm} {p : Nat} (hp : p ≤ 6) (hb : C.2.1 163 1 = nI p) {k : Nat} (hk : k < p) : (xm_228 C).2.1 181 k = C.2.1 164 k ∧ (xm_228 C).2.1 182 k = C.2.1 165 k := by
  rw [(x228 hp hb).1]
  refine ⟨?_, ?_⟩
  · show ro_cp4 C.2.1 181 182 164 165 0 p 181 k = _
    rw [cp4_1 (by decide), if_pos hk]
  · show ro_cp4 C.2.1 181 182 164 165 0 p 182 k = _
    rw [cp4_2 (by decide), if_pos hk]
section MOD
variable {C : ro_Mm} {p i j : Nat} {v1 : Int32}
theorem md_xp (hp : p ≤ 6) (hb : C.2.1 163 1 = nI p) (hi : i < p) (hj : j < p) (hij : i ≠ j) (ei : v1 / 10 = nI i) (ej : ro_irem v1 10 = nI j) {v2 : Int32} : xp_274 C v1 v2 := by
  have hi6 : i < 6 := by omega
  have hj6 : j < 6 := by omega
  have g := (x228 hp hb).2
  have q1 := (x245 (M := xm_228 C) hi6 hj6 hij)
  have q2 := (x242 (M := xm_228 C) hi6 hj6 hij)
  have q3 := (x244 (M := xm_228 C) hi6)
  have e0 : (xm_228 C).2.1 163 1 = nI p := by rw [(x228 hp hb).1]; exact hb
  have k1 : xp_275 (xm_245 (xm_228 C) (nI i) (nI j)) := by rw [q1.1]; refine (x275 hp ?_).2; exact e0
  have k2 : xp_275 (xm_242 (xm_228 C) (nI i) (nI j)) := by rw [q2.1]; refine (x275 hp ?_).2; exact e0
  have k3 : xp_275 (xm_244 (xm_228 C) (nI i)) := by rw [q3.1]; refine (x275 hp ?_).2; exact e0
  obtain ⟨_, _, r3, r4⟩ := ro_n6 hi6
  obtain ⟨_, _, s3, s4⟩ := ro_n6 hj6
  have m73 : xp_240 (xm_228 C) (nI i) (nI j) := ⟨r4, fun _ => trivial, fun _ => ⟨s4, trivial⟩⟩
  have m75 : xp_241 (xm_228 C) (nI i) (nI j) := ⟨r4, fun _ => trivial, fun _ => ⟨r4, fun _ => trivial, fun _ => ⟨s4, trivial⟩⟩⟩
  unfold xp_274
  rw [ei, ej]
  exact ⟨fun _ => ⟨fun _ => ⟨g, fun _ => ⟨m73, fun _ => ⟨q2.2, k2, trivial⟩, fun _ => trivial⟩, fun _ => ⟨m75, fun _ => ⟨fun _ => ⟨q1.2, k1, trivial⟩, fun _ => ⟨fun _ => ⟨q3.2, k3, trivial⟩, fun _ => ⟨q2.2, k2, trivial⟩⟩⟩, fun _ => trivial⟩⟩, fun _ => trivial⟩, fun _ => trivial⟩
/-- what the reference has at the end: F of its purses in thought -/
theorem md_0 (hp : p ≤ 6) (hb : C.2.1 163 1 = nI p) (hi : i < p) (hj : j < p) (hij : i ≠ j) (ei : v1 / 10 = nI i) (ej : ro_irem v1 10 = nI j) (q : xf_227 C v1 = true) (w : xf_241 (xm_228 C) (nI i) (nI j) = true) :
    xf_274 C v1 0 = nI j ∧ xm_274 C v1 0 = ro_sI (C.1, ro_cp4 (ro_up2 (ro_up2 (xm_228 C).2.1 181 i ((xm_228 C).2.1 181 i - 1)) 181 j ((xm_228 C).2.1 181 j + 1)) 164 165 181 182 0 p, C.2.2.1, C.2.2.2) 184 0 (C.2.1 184 0 + 1) := by
  have hi6 : i < 6 := by omega
  have hj6 : j < 6 := by omega
  have e0 : (xm_228 C).2.1 163 1 = nI p := by rw [(x228 hp hb).1]; exact hb
  have e1 : (ro_sI (ro_sI (xm_228 C) 181 i ((xm_228 C).2.1 181 i - 1)) 181 j ((xm_228 C).2.1 181 j + 1)).2.1 163 1 = nI p := e0
  have z2 : ¬ (0 : Int32) = 2 := by decide
  unfold xf_274 xm_274
  rw [ei, ej, if_pos q, if_pos (ro_w195.mpr (by decide)), if_neg z2, if_pos w, if_pos rfl, if_pos q, if_pos (ro_w195.mpr (by decide)), if_neg z2, if_pos w, if_pos rfl, (x245 hi6 hj6 hij).1, (x275 hp e1).1]
  refine ⟨rfl, ?_⟩
  have e2 : (xm_228 C).1 = C.1 ∧ (xm_228 C).2.2.1 = C.2.2.1 ∧ (xm_228 C).2.2.2 = C.2.2.2 := by rw [(x228 hp hb).1]; exact ⟨rfl, rfl, rfl⟩
  show ro_sI ((xm_228 C).1, ro_cp4 (ro_up2 (ro_up2 (xm_228 C).2.1 181 i ((xm_228 C).2.1 181 i - 1)) 181 j ((xm_228 C).2.1 181 j + 1)) 164 165 181 182 0 p, (xm_228 C).2.2.1, (xm_228 C).2.2.2) 184 0 (C.2.1 184 0 + 1) = _
  rw [e2.1, e2.2.1, e2.2.2]
theorem md_1 (hp : p ≤ 6) (hb : C.2.1 163 1 = nI p) (hi : i < p) (ei : v1 / 10 = nI i) (ej : ro_irem v1 10 = nI j) (q : xf_227 C v1 = true) (w : xf_241 (xm_228 C) (nI i) (nI j) = true) :
    xf_274 C v1 1 = nI i ∧ xm_274 C v1 1 = ro_sI (ro_sI (C.1, ro_cp4 (ro_up2 (ro_up2 (xm_228 C).2.1 181 i ((xm_228 C).2.1 181 i - 1)) 182 i ((xm_228 C).2.1 182 i + 1)) 164 165 181 182 0 p, C.2.2.1, C.2.2.2) 184 0 (C.2.1 184 0 + 1)) 184 1 (C.2.1 184 1 + 1) := by
  have hi6 : i < 6 := by omega
  have e0 : (xm_228 C).2.1 163 1 = nI p := by rw [(x228 hp hb).1]; exact hb
  have e1 : (ro_sI (ro_sI (xm_228 C) 181 i ((xm_228 C).2.1 181 i - 1)) 182 i ((xm_228 C).2.1 182 i + 1)).2.1 163 1 = nI p := e0
  have z2 : ¬ (1 : Int32) = 2 := by decide
  have z0 : ¬ (1 : Int32) = 0 := by decide
  unfold xf_274 xm_274
  rw [ei, ej, if_pos q, if_pos (ro_w195.mpr (by decide)), if_neg z2, if_pos w, if_neg z0, if_pos rfl, if_pos q, if_pos (ro_w195.mpr (by decide)), if_neg z2, if_pos w, if_neg z0, if_pos rfl, (x244 hi6).1, (x275 hp e1).1]
  refine ⟨rfl, ?_⟩
  have e2 : (xm_228 C).1 = C.1 ∧ (xm_228 C).2.2.1 = C.2.2.1 ∧ (xm_228 C).2.2.2 = C.2.2.2 := by rw [(x228 hp hb).1]; exact ⟨rfl, rfl, rfl⟩
  show ro_sI (ro_sI ((xm_228 C).1, ro_cp4 (ro_up2 (ro_up2 (xm_228 C).2.1 181 i ((xm_228 C).2.1 181 i - 1)) 182 i ((xm_228 C).2.1 182 i + 1)) 164 165 181 182 0 p, (xm_228 C).2.2.1, (xm_228 C).2.2.2) 184 0 (C.2.1 184 0 + 1)) 184 1 (C.2.1 184 1 + 1) = _
  rw [e2.1, e2.2.1, e2.2.2]
theorem md_2 (hp : p ≤ 6) (hb : C.2.1 163 1 = nI p) (hi : i < p) (hj : j < p) (hij : i ≠ j) (ei : v1 / 10 = nI i) (ej : ro_irem v1 10 = nI j) (q : xf_227 C v1 = true) (w : xf_240 (xm_228 C) (nI i) (nI j) = true) :
    xf_274 C v1 2 = nI j ∧ xm_274 C v1 2 = ro_sI (C.1, ro_cp4 (ro_up2 (ro_up2 (xm_228 C).2.1 182 i ((xm_228 C).2.1 182 i - 1)) 182 j ((xm_228 C).2.1 182 j + 1)) 164 165 181 182 0 p, C.2.2.1, C.2.2.2) 184 0 (C.2.1 184 0 + 1) := by
  have hi6 : i < 6 := by omega
  have hj6 : j < 6 := by omega
  have e0 : (xm_228 C).2.1 163 1 = nI p := by rw [(x228 hp hb).1]; exact hb
  have e1 : (ro_sI (ro_sI (xm_228 C) 182 i ((xm_228 C).2.1 182 i - 1)) 182 j ((xm_228 C).2.1 182 j + 1)).2.1 163 1 = nI p := e0
  unfold xf_274 xm_274
  rw [ei, ej, if_pos q, if_pos (ro_w195.mpr (by decide)), if_pos rfl, if_pos w, if_pos q, if_pos (ro_w195.mpr (by decide)), if_pos rfl, if_pos w, (x242 hi6 hj6 hij).1, (x275 hp e1).1]
  refine ⟨rfl, ?_⟩
  have e2 : (xm_228 C).1 = C.1 ∧ (xm_228 C).2.2.1 = C.2.2.1 ∧ (xm_228 C).2.2.2 = C.2.2.2 := by rw [(x228 hp hb).1]; exact ⟨rfl, rfl, rfl⟩
  show ro_sI ((xm_228 C).1, ro_cp4 (ro_up2 (ro_up2 (xm_228 C).2.1 182 i ((xm_228 C).2.1 182 i - 1)) 182 j ((xm_228 C).2.1 182 j + 1)) 164 165 181 182 0 p, (xm_228 C).2.2.1, (xm_228 C).2.2.2) 184 0 (C.2.1 184 0 + 1) = _
  rw [e2.1, e2.2.1, e2.2.2]
end MOD
theorem of_0 {M : ro_Mm} (h : ro_Inv M) {p i j : Nat} {v1 : Int32} (hp : p ≤ 6) (e1 : M.2.1 5 4 = nI p) (e2 : M.2.1 163 1 = nI p) (hi : i < p) (hj : j < p) (hij : i ≠ j) (ei : v1 / 10 = nI i) (ej : ro_irem v1 10 = nI j) (q : xf_56 M v1 = true) (w : xf_75 M 6 (nI i) (nI j) = true) :
    xf_144 M v1 0 = nI j ∧ xf_274 (xm_144 M v1 0) v1 0 = nI j ∧ iv_r (xm_274 (xm_144 M v1 0) v1 0).2.1 ∧ iv_s (xm_274 (xm_144 M v1 0) v1 0).2.1 (xm_274 (xm_144 M v1 0) v1 0).2.2.1 ∧ xp_274 (xm_144 M v1 0) v1 0 := by
  have hi6 : i < 6 := by omega
  have hj6 : j < 6 := by omega
  have hb := h.2.1.2.1
  have hc := h.2.1.2.2.1
  have bi := hb i hi6
  have bj := hb j hj6
  have eC : xm_144 M v1 0 = ro_sI (ro_sI (ro_sI M 11 0 (M.2.1 11 0 + 1)) 7 i (M.2.1 7 i - 1)) 7 j (M.2.1 7 j + 1) ∧ xf_144 M v1 0 = nI j := by
    unfold xm_144 xf_144
    rw [ei, ej, if_pos q, if_pos (ro_w13.mpr (by decide)), if_neg (show ¬ (0 : Int32) = 2 by decide), if_pos w, if_neg (show ¬ (0 : Int32) = 1 by decide), if_pos rfl, if_pos q, if_pos (ro_w13.mpr (by decide)), if_neg (show ¬ (0 : Int32) = 2 by decide), if_pos w, if_neg (show ¬ (0 : Int32) = 1 by decide), x145.1, x78 hi6 hj6 hij]
    exact ⟨rfl, rfl⟩
  have q2 : xf_227 (ro_sI (ro_sI (ro_sI M 11 0 (M.2.1 11 0 + 1)) 7 i (M.2.1 7 i - 1)) 7 j (M.2.1 7 j + 1)) v1 = true := (ro_two h).trans q
  have hbp : (ro_sI (ro_sI (ro_sI M 11 0 (M.2.1 11 0 + 1)) 7 i (M.2.1 7 i - 1)) 7 j (M.2.1 7 j + 1)).2.1 163 1 = nI p := e2
  have li := ml_228 hp hbp hi
  have lj := ml_228 hp hbp hj
  have a1 : (xm_228 (ro_sI (ro_sI (ro_sI M 11 0 (M.2.1 11 0 + 1)) 7 i (M.2.1 7 i - 1)) 7 j (M.2.1 7 j + 1))).2.1 181 i = M.2.1 7 i := li.1.trans bi.1.1
  have a2 : (xm_228 (ro_sI (ro_sI (ro_sI M 11 0 (M.2.1 11 0 + 1)) 7 i (M.2.1 7 i - 1)) 7 j (M.2.1 7 j + 1))).2.1 182 i = M.2.1 8 i := li.2.trans bi.2.1.1
  have a3 : (xm_228 (ro_sI (ro_sI (ro_sI M 11 0 (M.2.1 11 0 + 1)) 7 i (M.2.1 7 i - 1)) 7 j (M.2.1 7 j + 1))).2.1 181 j = M.2.1 7 j := lj.1.trans bj.1.1
  have a4 : (xm_228 (ro_sI (ro_sI (ro_sI M 11 0 (M.2.1 11 0 + 1)) 7 i (M.2.1 7 i - 1)) 7 j (M.2.1 7 j + 1))).2.1 182 j = M.2.1 8 j := lj.2.trans bj.2.1.1
  have w2 : xf_241 (xm_228 (ro_sI (ro_sI (ro_sI M 11 0 (M.2.1 11 0 + 1)) 7 i (M.2.1 7 i - 1)) 7 j (M.2.1 7 j + 1))) (nI i) (nI j) = true := by
    rw [(x75 (M := M) (c := 6) hi6 hj6 a1 a3 a2).1]
    exact w
  have eL : (xm_228 (ro_sI (ro_sI (ro_sI M 11 0 (M.2.1 11 0 + 1)) 7 i (M.2.1 7 i - 1)) 7 j (M.2.1 7 j + 1))).2.1 = ro_cp4 (ro_sI (ro_sI (ro_sI M 11 0 (M.2.1 11 0 + 1)) 7 i (M.2.1 7 i - 1)) 7 j (M.2.1 7 j + 1)).2.1 181 182 164 165 0 p := by rw [(x228 hp hbp).1]
  obtain ⟨m1, m2⟩ := md_0 hp hbp hi hj hij ei ej q2 w2
  rw [eC.1]
  refine ⟨eC.2, m1, ?_, ?_, md_xp hp hbp hi hj hij ei ej⟩
  · rw [m2, a1, a3, eL]
    refine ⟨h.2.1.1, ?_, ?_, h.2.1.2.2.2⟩
    · intro k hk
      have bk := hb k hk
      have w3 := w
      unfold xf_75 at w3
      rw [x31 hi6, x31 hj6, x32 hi6] at w3
      have l1 : ∀ y, ro_cp4 (ro_sI (ro_sI (ro_sI M 11 0 (M.2.1 11 0 + 1)) 7 i (M.2.1 7 i - 1)) 7 j (M.2.1 7 j + 1)).2.1 181 182 164 165 0 p 181 y = if y < p then M.2.1 164 y else M.2.1 181 y := fun y => cp4_1 (by decide)
      have l2 : ∀ y, ro_cp4 (ro_sI (ro_sI (ro_sI M 11 0 (M.2.1 11 0 + 1)) 7 i (M.2.1 7 i - 1)) 7 j (M.2.1 7 j + 1)).2.1 181 182 164 165 0 p 182 y = if y < p then M.2.1 165 y else M.2.1 182 y := fun y => cp4_2 (by decide)
      refine ⟨?_, ?_, bk.2.2⟩
      · show ro_cp4 (ro_up2 (ro_up2 (ro_cp4 (ro_sI (ro_sI (ro_sI M 11 0 (M.2.1 11 0 + 1)) 7 i (M.2.1 7 i - 1)) 7 j (M.2.1 7 j + 1)).2.1 181 182 164 165 0 p) 181 i (M.2.1 7 i - 1)) 181 j (M.2.1 7 j + 1)) 164 165 181 182 0 p 164 k = (ro_up2 (ro_up2 M.2.1 7 i (M.2.1 7 i - 1)) 7 j (M.2.1 7 j + 1)) 7 k ∧ 0 ≤ (ro_up2 (ro_up2 M.2.1 7 i (M.2.1 7 i - 1)) 7 j (M.2.1 7 j + 1)) 7 k ∧ (ro_up2 (ro_up2 M.2.1 7 i (M.2.1 7 i - 1)) 7 j (M.2.1 7 j + 1)) 7 k ≤ 20
        rw [cp4_1 (by decide)]
        have n164 : (ro_up2 (ro_up2 (ro_cp4 (ro_sI (ro_sI (ro_sI M 11 0 (M.2.1 11 0 + 1)) 7 i (M.2.1 7 i - 1)) 7 j (M.2.1 7 j + 1)).2.1 181 182 164 165 0 p) 181 i (M.2.1 7 i - 1)) 181 j (M.2.1 7 j + 1)) 164 k = M.2.1 164 k := rfl
        rw [n164]
        by_cases hkp : k < p
        · rw [if_pos hkp]
          grind [ro_up2]
        · rw [if_neg hkp]
          grind [ro_up2]
      · show ro_cp4 (ro_up2 (ro_up2 (ro_cp4 (ro_sI (ro_sI (ro_sI M 11 0 (M.2.1 11 0 + 1)) 7 i (M.2.1 7 i - 1)) 7 j (M.2.1 7 j + 1)).2.1 181 182 164 165 0 p) 181 i (M.2.1 7 i - 1)) 181 j (M.2.1 7 j + 1)) 164 165 181 182 0 p 165 k = M.2.1 8 k ∧ 0 ≤ M.2.1 8 k ∧ M.2.1 8 k ≤ 20
        rw [cp4_2 (by decide)]
        have n165 : (ro_up2 (ro_up2 (ro_cp4 (ro_sI (ro_sI (ro_sI M 11 0 (M.2.1 11 0 + 1)) 7 i (M.2.1 7 i - 1)) 7 j (M.2.1 7 j + 1)).2.1 181 182 164 165 0 p) 181 i (M.2.1 7 i - 1)) 181 j (M.2.1 7 j + 1)) 165 k = M.2.1 165 k := rfl
        rw [n165]
        by_cases hkp : k < p
        · rw [if_pos hkp]
          grind [ro_up2]
        · rw [if_neg hkp]
          grind [ro_up2]
    · intro y hy
      have g := hc y hy
      have g0 := hc 0 (by decide)
      have g1 := hc 1 (by decide)
      show (ro_up2 M.2.1 184 0 (M.2.1 184 0 + 1)) 184 y = (ro_up2 M.2.1 11 0 (M.2.1 11 0 + 1)) 11 y
      grind [ro_up2]
  · rw [m2, eL]
    intro s hs
    have g := h.2.2 s hs
    rcases (show s = 0 ∨ s = 1 ∨ s = 2 ∨ s = 3 ∨ s = 4 ∨ s = 5 by omega) with e | e | e | e | e | e <;> rw [e] at g ⊢ <;> exact g
theorem of_1 {M : ro_Mm} (h : ro_Inv M) {p i j : Nat} {v1 : Int32} (hp : p ≤ 6) (e1 : M.2.1 5 4 = nI p) (e2 : M.2.1 163 1 = nI p) (hi : i < p) (hj : j < p) (hij : i ≠ j) (ei : v1 / 10 = nI i) (ej : ro_irem v1 10 = nI j) (q : xf_56 M v1 = true) (w : xf_75 M 6 (nI i) (nI j) = true) :
    xf_144 M v1 1 = nI i ∧ xf_274 (xm_144 M v1 1) v1 1 = nI i ∧ iv_r (xm_274 (xm_144 M v1 1) v1 1).2.1 ∧ iv_s (xm_274 (xm_144 M v1 1) v1 1).2.1 (xm_274 (xm_144 M v1 1) v1 1).2.2.1 ∧ xp_274 (xm_144 M v1 1) v1 1 := by
  have hi6 : i < 6 := by omega
  have hj6 : j < 6 := by omega
  have hb := h.2.1.2.1
  have hc := h.2.1.2.2.1
  have bi := hb i hi6
  have bj := hb j hj6
  have eC : xm_144 M v1 1 = ro_sI (ro_sI (ro_sI (ro_sI M 11 0 (M.2.1 11 0 + 1)) 7 i (M.2.1 7 i - 1)) 8 i (M.2.1 8 i + 1)) 11 1 (M.2.1 11 1 + 1) ∧ xf_144 M v1 1 = nI i := by
    unfold xm_144 xf_144
    rw [ei, ej, if_pos q, if_pos (ro_w13.mpr (by decide)), if_neg (show ¬ (1 : Int32) = 2 by decide), if_pos w, if_pos rfl, if_pos q, if_pos (ro_w13.mpr (by decide)), if_neg (show ¬ (1 : Int32) = 2 by decide), if_pos w, if_pos rfl, x145.1, x77 hi6, x145.2]
    exact ⟨rfl, rfl⟩
  have q2 : xf_227 (ro_sI (ro_sI (ro_sI (ro_sI M 11 0 (M.2.1 11 0 + 1)) 7 i (M.2.1 7 i - 1)) 8 i (M.2.1 8 i + 1)) 11 1 (M.2.1 11 1 + 1)) v1 = true := (ro_two h).trans q
  have hbp : (ro_sI (ro_sI (ro_sI (ro_sI M 11 0 (M.2.1 11 0 + 1)) 7 i (M.2.1 7 i - 1)) 8 i (M.2.1 8 i + 1)) 11 1 (M.2.1 11 1 + 1)).2.1 163 1 = nI p := e2
  have li := ml_228 hp hbp hi
  have lj := ml_228 hp hbp hj
  have a1 : (xm_228 (ro_sI (ro_sI (ro_sI (ro_sI M 11 0 (M.2.1 11 0 + 1)) 7 i (M.2.1 7 i - 1)) 8 i (M.2.1 8 i + 1)) 11 1 (M.2.1 11 1 + 1))).2.1 181 i = M.2.1 7 i := li.1.trans bi.1.1
  have a2 : (xm_228 (ro_sI (ro_sI (ro_sI (ro_sI M 11 0 (M.2.1 11 0 + 1)) 7 i (M.2.1 7 i - 1)) 8 i (M.2.1 8 i + 1)) 11 1 (M.2.1 11 1 + 1))).2.1 182 i = M.2.1 8 i := li.2.trans bi.2.1.1
  have a3 : (xm_228 (ro_sI (ro_sI (ro_sI (ro_sI M 11 0 (M.2.1 11 0 + 1)) 7 i (M.2.1 7 i - 1)) 8 i (M.2.1 8 i + 1)) 11 1 (M.2.1 11 1 + 1))).2.1 181 j = M.2.1 7 j := lj.1.trans bj.1.1
  have a4 : (xm_228 (ro_sI (ro_sI (ro_sI (ro_sI M 11 0 (M.2.1 11 0 + 1)) 7 i (M.2.1 7 i - 1)) 8 i (M.2.1 8 i + 1)) 11 1 (M.2.1 11 1 + 1))).2.1 182 j = M.2.1 8 j := lj.2.trans bj.2.1.1
  have w2 : xf_241 (xm_228 (ro_sI (ro_sI (ro_sI (ro_sI M 11 0 (M.2.1 11 0 + 1)) 7 i (M.2.1 7 i - 1)) 8 i (M.2.1 8 i + 1)) 11 1 (M.2.1 11 1 + 1))) (nI i) (nI j) = true := by
    rw [(x75 (M := M) (c := 6) hi6 hj6 a1 a3 a2).1]
    exact w
  have eL : (xm_228 (ro_sI (ro_sI (ro_sI (ro_sI M 11 0 (M.2.1 11 0 + 1)) 7 i (M.2.1 7 i - 1)) 8 i (M.2.1 8 i + 1)) 11 1 (M.2.1 11 1 + 1))).2.1 = ro_cp4 (ro_sI (ro_sI (ro_sI (ro_sI M 11 0 (M.2.1 11 0 + 1)) 7 i (M.2.1 7 i - 1)) 8 i (M.2.1 8 i + 1)) 11 1 (M.2.1 11 1 + 1)).2.1 181 182 164 165 0 p := by rw [(x228 hp hbp).1]
  obtain ⟨m1, m2⟩ := md_1 hp hbp hi ei ej q2 w2
  rw [eC.1]
  refine ⟨eC.2, m1, ?_, ?_, md_xp hp hbp hi hj hij ei ej⟩
  · rw [m2, a1, a2, eL]
    refine ⟨h.2.1.1, ?_, ?_, h.2.1.2.2.2⟩
    · intro k hk
      have bk := hb k hk
      have w3 := w
      unfold xf_75 at w3
      rw [x31 hi6, x31 hj6, x32 hi6] at w3
      have l1 : ∀ y, ro_cp4 (ro_sI (ro_sI (ro_sI (ro_sI M 11 0 (M.2.1 11 0 + 1)) 7 i (M.2.1 7 i - 1)) 8 i (M.2.1 8 i + 1)) 11 1 (M.2.1 11 1 + 1)).2.1 181 182 164 165 0 p 181 y = if y < p then M.2.1 164 y else M.2.1 181 y := fun y => cp4_1 (by decide)
      have l2 : ∀ y, ro_cp4 (ro_sI (ro_sI (ro_sI (ro_sI M 11 0 (M.2.1 11 0 + 1)) 7 i (M.2.1 7 i - 1)) 8 i (M.2.1 8 i + 1)) 11 1 (M.2.1 11 1 + 1)).2.1 181 182 164 165 0 p 182 y = if y < p then M.2.1 165 y else M.2.1 182 y := fun y => cp4_2 (by decide)
      refine ⟨?_, ?_, bk.2.2⟩
      · show ro_cp4 (ro_up2 (ro_up2 (ro_cp4 (ro_sI (ro_sI (ro_sI (ro_sI M 11 0 (M.2.1 11 0 + 1)) 7 i (M.2.1 7 i - 1)) 8 i (M.2.1 8 i + 1)) 11 1 (M.2.1 11 1 + 1)).2.1 181 182 164 165 0 p) 181 i (M.2.1 7 i - 1)) 182 i (M.2.1 8 i + 1)) 164 165 181 182 0 p 164 k = (ro_up2 M.2.1 7 i (M.2.1 7 i - 1)) 7 k ∧ 0 ≤ (ro_up2 M.2.1 7 i (M.2.1 7 i - 1)) 7 k ∧ (ro_up2 M.2.1 7 i (M.2.1 7 i - 1)) 7 k ≤ 20
        rw [cp4_1 (by decide)]
        have n164 : (ro_up2 (ro_up2 (ro_cp4 (ro_sI (ro_sI (ro_sI (ro_sI M 11 0 (M.2.1 11 0 + 1)) 7 i (M.2.1 7 i - 1)) 8 i (M.2.1 8 i + 1)) 11 1 (M.2.1 11 1 + 1)).2.1 181 182 164 165 0 p) 181 i (M.2.1 7 i - 1)) 182 i (M.2.1 8 i + 1)) 164 k = M.2.1 164 k := rfl
        rw [n164]
        by_cases hkp : k < p
        · rw [if_pos hkp]
          grind [ro_up2]
        · rw [if_neg hkp]
          grind [ro_up2]
      · show ro_cp4 (ro_up2 (ro_up2 (ro_cp4 (ro_sI (ro_sI (ro_sI (ro_sI M 11 0 (M.2.1 11 0 + 1)) 7 i (M.2.1 7 i - 1)) 8 i (M.2.1 8 i + 1)) 11 1 (M.2.1 11 1 + 1)).2.1 181 182 164 165 0 p) 181 i (M.2.1 7 i - 1)) 182 i (M.2.1 8 i + 1)) 164 165 181 182 0 p 165 k = (ro_up2 M.2.1 8 i (M.2.1 8 i + 1)) 8 k ∧ 0 ≤ (ro_up2 M.2.1 8 i (M.2.1 8 i + 1)) 8 k ∧ (ro_up2 M.2.1 8 i (M.2.1 8 i + 1)) 8 k ≤ 20
        rw [cp4_2 (by decide)]
        have n165 : (ro_up2 (ro_up2 (ro_cp4 (ro_sI (ro_sI (ro_sI (ro_sI M 11 0 (M.2.1 11 0 + 1)) 7 i (M.2.1 7 i - 1)) 8 i (M.2.1 8 i + 1)) 11 1 (M.2.1 11 1 + 1)).2.1 181 182 164 165 0 p) 181 i (M.2.1 7 i - 1)) 182 i (M.2.1 8 i + 1)) 165 k = M.2.1 165 k := rfl
        rw [n165]
        by_cases hkp : k < p
        · rw [if_pos hkp]
          grind [ro_up2]
        · rw [if_neg hkp]
          grind [ro_up2]
    · intro y hy
      have g := hc y hy
      have g0 := hc 0 (by decide)
      have g1 := hc 1 (by decide)
      show (ro_up2 (ro_up2 M.2.1 184 0 (M.2.1 184 0 + 1)) 184 1 (M.2.1 184 1 + 1)) 184 y = (ro_up2 (ro_up2 M.2.1 11 0 (M.2.1 11 0 + 1)) 11 1 (M.2.1 11 1 + 1)) 11 y
      grind [ro_up2]
  · rw [m2, eL]
    intro s hs
    have g := h.2.2 s hs
    rcases (show s = 0 ∨ s = 1 ∨ s = 2 ∨ s = 3 ∨ s = 4 ∨ s = 5 by omega) with e | e | e | e | e | e <;> rw [e] at g ⊢ <;> exact g
theorem of_2 {M : ro_Mm} (h : ro_Inv M) {p i j : Nat} {v1 : Int32} (hp : p ≤ 6) (e1 : M.2.1 5 4 = nI p) (e2 : M.2.1 163 1 = nI p) (hi : i < p) (hj : j < p) (hij : i ≠ j) (ei : v1 / 10 = nI i) (ej : ro_irem v1 10 = nI j) (q : xf_56 M v1 = true) (w : xf_73 M 6 (nI i) (nI j) = true) :
    xf_144 M v1 2 = nI j ∧ xf_274 (xm_144 M v1 2) v1 2 = nI j ∧ iv_r (xm_274 (xm_144 M v1 2) v1 2).2.1 ∧ iv_s (xm_274 (xm_144 M v1 2) v1 2).2.1 (xm_274 (xm_144 M v1 2) v1 2).2.2.1 ∧ xp_274 (xm_144 M v1 2) v1 2 := by
  have hi6 : i < 6 := by omega
  have hj6 : j < 6 := by omega
  have hb := h.2.1.2.1
  have hc := h.2.1.2.2.1
  have bi := hb i hi6
  have bj := hb j hj6
  have eC : xm_144 M v1 2 = ro_sI (ro_sI (ro_sI M 11 0 (M.2.1 11 0 + 1)) 8 i (M.2.1 8 i - 1)) 8 j (M.2.1 8 j + 1) ∧ xf_144 M v1 2 = nI j := by
    unfold xm_144 xf_144
    rw [ei, ej, if_pos q, if_pos (ro_w13.mpr (by decide)), if_pos rfl, if_pos w, if_pos q, if_pos (ro_w13.mpr (by decide)), if_pos rfl, if_pos w, x145.1, x74 hi6 hj6 hij]
    exact ⟨rfl, rfl⟩
  have q2 : xf_227 (ro_sI (ro_sI (ro_sI M 11 0 (M.2.1 11 0 + 1)) 8 i (M.2.1 8 i - 1)) 8 j (M.2.1 8 j + 1)) v1 = true := (ro_two h).trans q
  have hbp : (ro_sI (ro_sI (ro_sI M 11 0 (M.2.1 11 0 + 1)) 8 i (M.2.1 8 i - 1)) 8 j (M.2.1 8 j + 1)).2.1 163 1 = nI p := e2
  have li := ml_228 hp hbp hi
  have lj := ml_228 hp hbp hj
  have a1 : (xm_228 (ro_sI (ro_sI (ro_sI M 11 0 (M.2.1 11 0 + 1)) 8 i (M.2.1 8 i - 1)) 8 j (M.2.1 8 j + 1))).2.1 181 i = M.2.1 7 i := li.1.trans bi.1.1
  have a2 : (xm_228 (ro_sI (ro_sI (ro_sI M 11 0 (M.2.1 11 0 + 1)) 8 i (M.2.1 8 i - 1)) 8 j (M.2.1 8 j + 1))).2.1 182 i = M.2.1 8 i := li.2.trans bi.2.1.1
  have a3 : (xm_228 (ro_sI (ro_sI (ro_sI M 11 0 (M.2.1 11 0 + 1)) 8 i (M.2.1 8 i - 1)) 8 j (M.2.1 8 j + 1))).2.1 181 j = M.2.1 7 j := lj.1.trans bj.1.1
  have a4 : (xm_228 (ro_sI (ro_sI (ro_sI M 11 0 (M.2.1 11 0 + 1)) 8 i (M.2.1 8 i - 1)) 8 j (M.2.1 8 j + 1))).2.1 182 j = M.2.1 8 j := lj.2.trans bj.2.1.1
  have w2 : xf_240 (xm_228 (ro_sI (ro_sI (ro_sI M 11 0 (M.2.1 11 0 + 1)) 8 i (M.2.1 8 i - 1)) 8 j (M.2.1 8 j + 1))) (nI i) (nI j) = true := by
    rw [(x73 (M := M) (c := 6) hi6 hj6 a2 a4).1]
    exact w
  have eL : (xm_228 (ro_sI (ro_sI (ro_sI M 11 0 (M.2.1 11 0 + 1)) 8 i (M.2.1 8 i - 1)) 8 j (M.2.1 8 j + 1))).2.1 = ro_cp4 (ro_sI (ro_sI (ro_sI M 11 0 (M.2.1 11 0 + 1)) 8 i (M.2.1 8 i - 1)) 8 j (M.2.1 8 j + 1)).2.1 181 182 164 165 0 p := by rw [(x228 hp hbp).1]
  obtain ⟨m1, m2⟩ := md_2 hp hbp hi hj hij ei ej q2 w2
  rw [eC.1]
  refine ⟨eC.2, m1, ?_, ?_, md_xp hp hbp hi hj hij ei ej⟩
  · rw [m2, a2, a4, eL]
    refine ⟨h.2.1.1, ?_, ?_, h.2.1.2.2.2⟩
    · intro k hk
      have bk := hb k hk
      have w3 := w
      unfold xf_73 at w3
      rw [x32 hi6, x32 hj6] at w3
      have l1 : ∀ y, ro_cp4 (ro_sI (ro_sI (ro_sI M 11 0 (M.2.1 11 0 + 1)) 8 i (M.2.1 8 i - 1)) 8 j (M.2.1 8 j + 1)).2.1 181 182 164 165 0 p 181 y = if y < p then M.2.1 164 y else M.2.1 181 y := fun y => cp4_1 (by decide)
      have l2 : ∀ y, ro_cp4 (ro_sI (ro_sI (ro_sI M 11 0 (M.2.1 11 0 + 1)) 8 i (M.2.1 8 i - 1)) 8 j (M.2.1 8 j + 1)).2.1 181 182 164 165 0 p 182 y = if y < p then M.2.1 165 y else M.2.1 182 y := fun y => cp4_2 (by decide)
      refine ⟨?_, ?_, bk.2.2⟩
      · show ro_cp4 (ro_up2 (ro_up2 (ro_cp4 (ro_sI (ro_sI (ro_sI M 11 0 (M.2.1 11 0 + 1)) 8 i (M.2.1 8 i - 1)) 8 j (M.2.1 8 j + 1)).2.1 181 182 164 165 0 p) 182 i (M.2.1 8 i - 1)) 182 j (M.2.1 8 j + 1)) 164 165 181 182 0 p 164 k = M.2.1 7 k ∧ 0 ≤ M.2.1 7 k ∧ M.2.1 7 k ≤ 20
        rw [cp4_1 (by decide)]
        have n164 : (ro_up2 (ro_up2 (ro_cp4 (ro_sI (ro_sI (ro_sI M 11 0 (M.2.1 11 0 + 1)) 8 i (M.2.1 8 i - 1)) 8 j (M.2.1 8 j + 1)).2.1 181 182 164 165 0 p) 182 i (M.2.1 8 i - 1)) 182 j (M.2.1 8 j + 1)) 164 k = M.2.1 164 k := rfl
        rw [n164]
        by_cases hkp : k < p
        · rw [if_pos hkp]
          grind [ro_up2]
        · rw [if_neg hkp]
          grind [ro_up2]
      · show ro_cp4 (ro_up2 (ro_up2 (ro_cp4 (ro_sI (ro_sI (ro_sI M 11 0 (M.2.1 11 0 + 1)) 8 i (M.2.1 8 i - 1)) 8 j (M.2.1 8 j + 1)).2.1 181 182 164 165 0 p) 182 i (M.2.1 8 i - 1)) 182 j (M.2.1 8 j + 1)) 164 165 181 182 0 p 165 k = (ro_up2 (ro_up2 M.2.1 8 i (M.2.1 8 i - 1)) 8 j (M.2.1 8 j + 1)) 8 k ∧ 0 ≤ (ro_up2 (ro_up2 M.2.1 8 i (M.2.1 8 i - 1)) 8 j (M.2.1 8 j + 1)) 8 k ∧ (ro_up2 (ro_up2 M.2.1 8 i (M.2.1 8 i - 1)) 8 j (M.2.1 8 j + 1)) 8 k ≤ 20
        rw [cp4_2 (by decide)]
        have n165 : (ro_up2 (ro_up2 (ro_cp4 (ro_sI (ro_sI (ro_sI M 11 0 (M.2.1 11 0 + 1)) 8 i (M.2.1 8 i - 1)) 8 j (M.2.1 8 j + 1)).2.1 181 182 164 165 0 p) 182 i (M.2.1 8 i - 1)) 182 j (M.2.1 8 j + 1)) 165 k = M.2.1 165 k := rfl
        rw [n165]
        by_cases hkp : k < p
        · rw [if_pos hkp]
          grind [ro_up2]
        · rw [if_neg hkp]
          grind [ro_up2]
    · intro y hy
      have g := hc y hy
      have g0 := hc 0 (by decide)
      have g1 := hc 1 (by decide)
      show (ro_up2 M.2.1 184 0 (M.2.1 184 0 + 1)) 184 y = (ro_up2 M.2.1 11 0 (M.2.1 11 0 + 1)) 11 y
      grind [ro_up2]
  · rw [m2, eL]
    intro s hs
    have g := h.2.2 s hs
    rcases (show s = 0 ∨ s = 1 ∨ s = 2 ∨ s = 3 ∨ s = 4 ∨ s = 5 by omega) with e | e | e | e | e | e <;> rw [e] at g ⊢ <;> exact g
/-- it can't be -/
theorem of_n {M : ro_Mm} (h : ro_Inv M) {p i j : Nat} {v1 : Int32} (hp : p ≤ 6) (e1 : M.2.1 5 4 = nI p) (e2 : M.2.1 163 1 = nI p) (hi : i < p) (hj : j < p) (hij : i ≠ j) (ei : v1 / 10 = nI i) (ej : ro_irem v1 10 = nI j) (q : xf_56 M v1 = true) :
    (¬ xf_75 M 6 (nI i) (nI j) = true → ∀ v2 : Int32, v2 = 0 ∨ v2 = 1 → xm_144 M v1 v2 = M ∧ xf_144 M v1 v2 = -5 ∧ xf_274 M v1 v2 = -5 ∧ xm_274 M v1 v2 = xm_228 M) ∧
    (¬ xf_73 M 6 (nI i) (nI j) = true → xm_144 M v1 2 = M ∧ xf_144 M v1 2 = -5 ∧ xf_274 M v1 2 = -5 ∧ xm_274 M v1 2 = xm_228 M) := by
  have hi6 : i < 6 := by omega
  have hj6 : j < 6 := by omega
  have hb := h.2.1.2.1
  have bi := hb i hi6
  have bj := hb j hj6
  have q2 : xf_227 M v1 = true := (ro_two h).trans q
  have li := ml_228 hp e2 hi
  have lj := ml_228 hp e2 hj
  have a1 : (xm_228 M).2.1 181 i = M.2.1 7 i := li.1.trans bi.1.1
  have a2 : (xm_228 M).2.1 182 i = M.2.1 8 i := li.2.trans bi.2.1.1
  have a3 : (xm_228 M).2.1 181 j = M.2.1 7 j := lj.1.trans bj.1.1
  have a4 : (xm_228 M).2.1 182 j = M.2.1 8 j := lj.2.trans bj.2.1.1
  refine ⟨fun w v2 hv => ?_, fun w => ?_⟩
  · have w2 : ¬ xf_241 (xm_228 M) (nI i) (nI j) = true := by
      rw [(x75 (M := M) (c := 6) hi6 hj6 a1 a3 a2).1]
      exact w
    have r : 0 ≤ v2 ∧ v2 ≤ 2 := by grind
    have n2 : ¬ v2 = 2 := by grind
    unfold xm_144 xf_144 xf_274 xm_274
    rw [ei, ej, if_pos q, if_pos (ro_w13.mpr r), if_neg n2, if_neg w, if_pos q, if_pos (ro_w13.mpr r), if_neg n2, if_neg w, if_pos q2, if_pos (ro_w195.mpr r), if_neg n2, if_neg w2, if_pos q2, if_pos (ro_w195.mpr r), if_neg n2, if_neg w2]
    exact ⟨rfl, rfl, rfl, rfl⟩
  · have w2 : ¬ xf_240 (xm_228 M) (nI i) (nI j) = true := by
      rw [(x73 (M := M) (c := 6) hi6 hj6 a2 a4).1]
      exact w
    have r : (0 : Int32) ≤ 2 ∧ (2 : Int32) ≤ 2 := by decide
    unfold xm_144 xf_144 xf_274 xm_274
    rw [ei, ej, if_pos q, if_pos (ro_w13.mpr r), if_pos rfl, if_neg w, if_pos q, if_pos (ro_w13.mpr r), if_pos rfl, if_neg w, if_pos q2, if_pos (ro_w195.mpr r), if_pos rfl, if_neg w2, if_pos q2, if_pos (ro_w195.mpr r), if_pos rfl, if_neg w2]
    exact ⟨rfl, rfl, rfl, rfl⟩
theorem all_22 {M : ro_Mm} (h : ro_Inv M) {v1 v2 : Int32} : xp_274 (xm_144 M v1 v2) v1 v2 ∧ xf_274 (xm_144 M v1 v2) v1 v2 = xf_144 M v1 v2 ∧ iv_r (xm_274 (xm_144 M v1 v2) v1 v2).2.1 ∧ iv_s (xm_274 (xm_144 M v1 v2) v1 v2).2.1 (xm_274 (xm_144 M v1 v2) v1 v2).2.2.1 := by
  obtain ⟨p, hp, e1, e2⟩ := ro_ppl h
  by_cases q : xf_56 M v1 = true
  · by_cases r : 0 ≤ v2 ∧ v2 ≤ 2
    · obtain ⟨i, j, hi, hj, hij, ei, ej⟩ := ro_two_i hp e1 q
      obtain ⟨n1, n2⟩ := of_n h hp e1 e2 hi hj hij ei ej q
      have hE := ro_eqv_i (eq_228 h.1 hp e2) h
      rcases (show v2 = 0 ∨ v2 = 1 ∨ v2 = 2 by grind) with e | e | e
      · rw [e]
        by_cases w : xf_75 M 6 (nI i) (nI j) = true
        · obtain ⟨k1, k2, k3, k4, k5⟩ := of_0 h hp e1 e2 hi hj hij ei ej q w
          exact ⟨k5, k2.trans k1.symm, k3, k4⟩
        · obtain ⟨k1, k2, k3, k4⟩ := n1 w 0 (Or.inl rfl)
          rw [k1, k2, k3, k4]
          exact ⟨md_xp hp e2 hi hj hij ei ej, rfl, hE.2⟩
      · rw [e]
        by_cases w : xf_75 M 6 (nI i) (nI j) = true
        · obtain ⟨k1, k2, k3, k4, k5⟩ := of_1 h hp e1 e2 hi hj hij ei ej q w
          exact ⟨k5, k2.trans k1.symm, k3, k4⟩
        · obtain ⟨k1, k2, k3, k4⟩ := n1 w 1 (Or.inr rfl)
          rw [k1, k2, k3, k4]
          exact ⟨md_xp hp e2 hi hj hij ei ej, rfl, hE.2⟩
      · rw [e]
        by_cases w : xf_73 M 6 (nI i) (nI j) = true
        · obtain ⟨k1, k2, k3, k4, k5⟩ := of_2 h hp e1 e2 hi hj hij ei ej q w
          exact ⟨k5, k2.trans k1.symm, k3, k4⟩
        · obtain ⟨k1, k2, k3, k4⟩ := n2 w
          rw [k1, k2, k3, k4]
          exact ⟨md_xp hp e2 hi hj hij ei ej, rfl, hE.2⟩
    · have r1 : ¬ xf_13 M v2 0 2 = true := fun y => r (ro_w13.mp y)
      have r2 : ¬ xf_195 M v2 0 2 = true := fun y => r (ro_w195.mp y)
      have q2 : xf_227 M v1 = true := (ro_two h).trans q
      have k1 : xm_144 M v1 v2 = M := by unfold xm_144; rw [if_pos q, if_neg r1]
      have k2 : xf_144 M v1 v2 = -1 := by unfold xf_144; rw [if_pos q, if_neg r1]
      have k3 : xm_274 M v1 v2 = M := by unfold xm_274; rw [if_pos q2, if_neg r2]
      have k4 : xf_274 M v1 v2 = -1 := by unfold xf_274; rw [if_pos q2, if_neg r2]
      rw [k1, k2, k3, k4]
      exact ⟨⟨fun _ => ⟨fun y => absurd y r2, fun _ => trivial⟩, fun _ => trivial⟩, rfl, h.2⟩
  · have q2 : ¬ xf_227 M v1 = true := by rw [ro_two h]; exact q
    have k1 : xm_144 M v1 v2 = M := by unfold xm_144; rw [if_neg q]
    have k2 : xf_144 M v1 v2 = -1 := by unfold xf_144; rw [if_neg q]
    have k3 : xm_274 M v1 v2 = M := by unfold xm_274; rw [if_neg q2]
    have k4 : xf_274 M v1 v2 = -1 := by unfold xf_274; rw [if_neg q2]
    rw [k1, k2, k3, k4]
    exact ⟨⟨fun y => absurd y q2, fun _ => trivial⟩, rfl, h.2⟩
theorem pp_22 {M : ro_Mm} (h : ro_Inv M) {v1 v2 : Int32} : xp_274 (xm_144 M v1 v2) v1 v2 := (all_22 h).1
theorem pe_22 {M : ro_Mm} (h : ro_Inv M) {v1 v2 : Int32} : xf_274 (xm_144 M v1 v2) v1 v2 = xf_144 M v1 v2 := (all_22 h).2.1
theorem pi_22 {M : ro_Mm} (h : ro_Inv M) {v1 v2 : Int32} : ro_Inv (xm_274 (xm_144 M v1 v2) v1 v2) := ⟨xl_274 (xl_144 h.1) (pp_22 h), (all_22 h).2.2⟩
end PAIRS7

