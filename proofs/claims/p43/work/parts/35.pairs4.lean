/-! pairs of calls, on: count, image, back (by program, wip/whole/gen35.py) -/
section PAIRS4
variable {X : ro_Sx}
theorem lp_big {p : Nat} (h : p ≤ 6) : p < lp_N := by rw [lp_N_eq]; omega
theorem ro_cle {v : Int32} {n : Nat} (h0 : 0 ≤ v) (hn : v ≤ Int32.ofNat n) (hb : n < 2 ^ 31) : v.toNatClampNeg ≤ n := by
  have e : (Int32.ofNat n).toInt = n := nI_toInt hb
  have h1 := Int32.le_iff_toInt_le.mp hn
  have h2 := Int32.le_iff_toInt_le.mp h0
  rw [e] at h1
  have h3 : (0 : Int32).toInt = 0 := by decide
  rw [h3] at h2
  show v.toInt.toNat ≤ n
  omega
theorem ro_ppl {M : ro_Mm} (h : ro_Inv M) : ∃ p, p ≤ 6 ∧ M.2.1 5 4 = nI p ∧ M.2.1 163 1 = nI p := by
  obtain ⟨ha1, ha2, ha3, ha4⟩ := h.2.1.1
  exact ⟨(M.2.1 5 4).toNatClampNeg, ro_cle (n := 6) ha2 ha3 (by decide), ro_nI_of ha2, ha1.trans (ro_nI_of ha2)⟩
theorem x68 {M : ro_Mm} {c0 c1 p : Nat} (h0 : ro_ip c0) (h1 : ro_ip c1) (hne : c0 ≠ c1) (hp : p ≤ 6) : xm_68 M c0 c1 (nI p) = (M.1, ro_cp4 M.2.1 (c0 + 1) (c0 + 2) (c1 + 1) (c1 + 2) 0 p, M.2.2.1, M.2.2.2) ∧ xp_68 M c0 c1 (nI p) := by
  have g := cl_68 h0 h1 hne hp p 0 lp_N M (by omega) (lp_big hp)
  rw [nI_0] at g
  exact ⟨g.1, g.2, trivial⟩
/-- all coins -/
theorem cl_191 {M : ro_Mm} (hb : iv_b M.2.1) {p : Nat} (hp : p ≤ 6) (e1 : M.2.1 5 4 = nI p) (e2 : M.2.1 163 1 = nI p) : ∀ (d k n : Nat) (s : Int32), k + d = p → d < n →
    ((xg_191_4 n M (nI k) s 0).2 = (xg_299_4 n M (nI k) s 1).2 ∧ xq_191_4 n M (nI k) s 0 ∧ xq_299_4 n M (nI k) s 1) ∧
    ((xg_191_4 n M (nI k) s 1).2 = (xg_299_4 n M (nI k) s 0).2 ∧ xq_191_4 n M (nI k) s 1 ∧ xq_299_4 n M (nI k) s 0) := by
  intro d
  induction d with
  | zero =>
    intro k n s hk hn
    cases n with
    | zero => omega
    | succ n =>
      have e : k = p := by omega
      rw [e]
      simp only [xg_191_4, xg_299_4, xq_191_4, xq_299_4, e1, e2, if_pos (ro_n66 hp)]
      exact ⟨⟨trivial, ⟨fun _ => trivial, fun z => absurd (ro_n66 hp) z⟩, ⟨fun _ => trivial, fun z => absurd (ro_n66 hp) z⟩⟩, ⟨trivial, ⟨fun _ => trivial, fun z => absurd (ro_n66 hp) z⟩, ⟨fun _ => trivial, fun z => absurd (ro_n66 hp) z⟩⟩⟩
  | succ d ih =>
    intro k n s hk hn
    cases n with
    | zero => omega
    | succ n =>
      have hkp : k < p := by omega
      have hk6 : k < 6 := by omega
      obtain ⟨q1, q2, q3, q4⟩ := ro_n6 hk6
      have q5 := ro_npk hkp hp
      have b := hb k hk6
      have f0 : xf_30 M (nI k) 0 = M.2.1 164 k := by
        unfold xf_30 xf_31
        rw [if_pos rfl, if_neg q1, if_neg q2, q3, b.1.1]
      have f1 : xf_30 M (nI k) 1 = M.2.1 165 k := by
        unfold xf_30 xf_32
        rw [if_neg (by decide), if_pos rfl, if_neg q1, if_neg q2, q3, b.2.1.1]
      obtain ⟨⟨i1, i2, i3⟩, _⟩ := ih (k + 1) n (s + M.2.1 164 k) (by omega) (by omega)
      obtain ⟨_, i4, i5, i6⟩ := ih (k + 1) n (s + M.2.1 165 k) (by omega) (by omega)
      rw [xg_191_4, xg_299_4, xq_191_4, xq_299_4, xg_191_4, xg_299_4, xq_191_4, xq_299_4]
      rw [e1, e2, if_neg q5, if_neg q5, if_neg q5, if_neg q5, if_neg (by decide), if_pos rfl, f0, f1, q3, ← nI_succ]
      exact ⟨⟨i1, ⟨fun _ => trivial, fun _ => i2⟩, ⟨fun _ => trivial, fun _ => ⟨fun z => absurd z (by decide), fun _ => ⟨q4, i3⟩⟩⟩⟩, ⟨i4, ⟨fun _ => trivial, fun _ => i5⟩, ⟨fun _ => trivial, fun _ => ⟨fun _ => ⟨q4, i6⟩, fun z => absurd rfl z⟩⟩⟩⟩
theorem al_all {M : ro_Mm} (h : ro_Inv M) : (xf_191 M 0 = xf_299 M true ∧ xp_191 M 0 ∧ xp_299 M true) ∧ (xf_191 M 1 = xf_299 M false ∧ xp_191 M 1 ∧ xp_299 M false) := by
  obtain ⟨p, hp, e1, e2⟩ := ro_ppl h
  have g := cl_191 h.2.1.2.1 hp e1 e2 p 0 lp_N 0 (by omega) (lp_big hp)
  rw [nI_0] at g
  exact ⟨⟨g.1.1, ⟨g.1.2.1, trivial⟩, ⟨g.1.2.2, trivial⟩⟩, ⟨g.2.1, ⟨g.2.2.1, trivial⟩, ⟨g.2.2.2, trivial⟩⟩⟩
theorem pc_39 {M : ro_Mm} (h : ro_Inv M) {v1 : Int32} : xp_190 M v1 := by
  obtain ⟨⟨a1, a2, a3⟩, b1, b2, b3⟩ := al_all h
  exact ⟨fun _ => trivial, fun _ => ⟨fun _ => ⟨a2, trivial⟩, fun _ => ⟨fun _ => ⟨b2, trivial⟩, fun _ => trivial⟩⟩⟩
theorem pp_39 {M : ro_Mm} (h : ro_Inv M) {v1 : Int32} : xp_298 M v1 := by
  obtain ⟨⟨a1, a2, a3⟩, b1, b2, b3⟩ := al_all h
  exact ⟨fun _ => trivial, fun _ => ⟨fun _ => ⟨a3, trivial⟩, fun _ => ⟨fun _ => ⟨b3, trivial⟩, fun _ => trivial⟩⟩⟩
theorem pe_39 {M : ro_Mm} (h : ro_Inv M) {v1 : Int32} : xf_298 M v1 = xf_190 M v1 := by
  obtain ⟨⟨a1, a2, a3⟩, b1, b2, b3⟩ := al_all h
  have e0 : xf_18 M = M.2.1 163 1 := h.2.1.1.1.symm
  have e3 : xf_42 M = M.2.1 163 14 := h.2.1.2.2.2.2.1.1.1.symm
  have e4 : xf_156 M = M.2.1 163 7 := h.2.1.2.2.2.2.2.2.1.1.1.symm
  have e5 : xf_163 M = M.2.1 163 49 := h.2.1.2.2.2.2.2.2.2.1.1.symm
  have e6 : xf_192 M = M.2.1 163 51 := h.2.1.2.2.2.2.2.2.2.2.1.1.symm
  unfold xf_298 xf_190
  rw [e0, e3, e4, e5, e6, a1, b1]
theorem cp4_1 {I : Nat → Nat → Int32} {a1 a2 b1 b2 p i : Nat} (h : a1 ≠ a2) : ro_cp4 I a1 a2 b1 b2 0 p a1 i = if i < p then I b1 i else I a1 i := by
  unfold ro_cp4
  by_cases q : i < p
  · rw [if_pos ⟨rfl, Nat.zero_le _, q⟩, if_pos q]
  · have z1 : ¬ (a1 = a1 ∧ 0 ≤ i ∧ i < p) := fun z => q z.2.2
    have z2 : ¬ (a1 = a2 ∧ 0 ≤ i ∧ i < p) := fun z => q z.2.2
    rw [if_neg z1, if_neg z2, if_neg q]
theorem cp4_2 {I : Nat → Nat → Int32} {a1 a2 b1 b2 p i : Nat} (h : a1 ≠ a2) : ro_cp4 I a1 a2 b1 b2 0 p a2 i = if i < p then I b2 i else I a2 i := by
  unfold ro_cp4
  have z1 : ¬ (a2 = a1 ∧ 0 ≤ i ∧ i < p) := fun z => h z.1.symm
  rw [if_neg z1]
  by_cases q : i < p
  · rw [if_pos ⟨rfl, Nat.zero_le _, q⟩, if_pos q]
  · have z2 : ¬ (a2 = a2 ∧ 0 ≤ i ∧ i < p) := fun z => q z.2.2
    rw [if_neg z2, if_neg q]
theorem cp4_3 {I : Nat → Nat → Int32} {a b i : Nat} (h : i < 4) : ro_cp4 I a a b b 0 4 a i = I b i := by
  unfold ro_cp4
  rw [if_pos ⟨rfl, Nat.zero_le _, h⟩]
theorem cpy_4 {f g : Nat → Int32} {i : Nat} (h : i < 4) : va_cpy f g (0 : Int32).toNatClampNeg (0 : Int32).toNatClampNeg (4 : Int32).toNatClampNeg i = f i := by
  have e0 : (0 : Int32).toNatClampNeg = 0 := by decide
  have e4 : (4 : Int32).toNatClampNeg = 4 := by decide
  unfold va_cpy
  rw [e0, e4, if_pos ⟨Nat.zero_le _, by omega⟩]
  congr 1
  omega
theorem x68_26 {M : ro_Mm} {p : Nat} (hp : p ≤ 6) : xm_68 M 12 6 (nI p) = (M.1, ro_cp4 M.2.1 13 14 7 8 0 p, M.2.2.1, M.2.2.2) ∧ xp_68 M 12 6 (nI p) := x68 (by unfold ro_ip; decide) (by unfold ro_ip; decide) (by decide) hp
theorem x68_27 {M : ro_Mm} {p : Nat} (hp : p ≤ 6) : xm_68 M 6 12 (nI p) = (M.1, ro_cp4 M.2.1 7 8 13 14 0 p, M.2.2.1, M.2.2.2) ∧ xp_68 M 6 12 (nI p) := x68 (by unfold ro_ip; decide) (by unfold ro_ip; decide) (by decide) hp
theorem x279_25 {M : ro_Mm} {p : Nat} (hp : p ≤ 6) (hb : M.2.1 163 1 = nI p) : (xg_279_25 lp_N M 0).2 = (M.1, ro_cp4 M.2.1 185 186 164 165 0 p, M.2.2.1, M.2.2.2) ∧ xq_279_25 lp_N M 0 := by
  have g := cl_279 hp p 0 lp_N M hb (by omega) (lp_big hp)
  rw [nI_0] at g
  exact g
theorem x279_65 {M : ro_Mm} : (xg_279_65 lp_N M 0).2 = (M.1, ro_cp4 M.2.1 187 187 184 184 0 4, M.2.2.1, M.2.2.2) ∧ xq_279_65 lp_N M 0 := by
  have g := cl_279_65 4 0 lp_N M (by omega) (lp_big (by omega))
  rw [nI_0] at g
  exact g
theorem x280_22 {M : ro_Mm} {p : Nat} (hp : p ≤ 6) (hb : M.2.1 163 44 = nI p) : (xg_280_22 lp_N M 0).2 = (M.1, ro_cp4 M.2.1 164 165 185 186 0 p, M.2.2.1, M.2.2.2) ∧ xq_280_22 lp_N M 0 := by
  have g := cl_280 hp p 0 lp_N M hb (by omega) (lp_big hp)
  rw [nI_0] at g
  exact g
theorem x280_62 {M : ro_Mm} : (xg_280_62 lp_N M 0).2 = (M.1, ro_cp4 M.2.1 184 184 187 187 0 4, M.2.2.1, M.2.2.2) ∧ xq_280_62 lp_N M 0 := by
  have g := cl_280_62 4 0 lp_N M (by omega) (lp_big (by omega))
  rw [nI_0] at g
  exact g
/-- image: the class's memory, the reference's -/
def im_A (M : ro_Mm) (p : Nat) : ro_Mm := ro_sI (ro_sI (ro_sI (ro_cpI (M.1, ro_cp4 M.2.1 13 14 7 8 0 p, M.2.2.1, M.2.2.2) 11 0 15 0 4) 5 11 (nI p)) 5 12 (M.2.1 5 6)) 5 10 1
def im_B (M : ro_Mm) : ro_Mm := ro_sI (ro_sI (ro_sI M 163 43 1) 163 44 (M.2.1 163 1)) 163 45 (M.2.1 168 1)
theorem pc_26 {M : ro_Mm} (h : ro_Inv M) : xp_150 M := by
  obtain ⟨p, hp, e1, e2⟩ := ro_ppl h
  unfold xp_150 xp_151
  rw [e1]
  exact ⟨⟨(x68_26 hp).2, trivial⟩, trivial⟩
theorem mm_26 {M : ro_Mm} (h : ro_Inv M) {p : Nat} (hp : p ≤ 6) (e1 : M.2.1 5 4 = nI p) : xm_150 M = im_A M p := by
  unfold xm_150 xm_151
  rw [e1, (x68_26 hp).1]
  rfl
theorem mn_26 {M : ro_Mm} (h : ro_Inv M) {p : Nat} (hp : p ≤ 6) (e2 : M.2.1 163 1 = nI p) : xm_279 (im_A M p) = (M.1, ro_cp4 (ro_cp4 (im_B (im_A M p)).2.1 185 186 164 165 0 p) 187 187 184 184 0 4, M.2.2.1, M.2.2.2) ∧ xp_279 (im_A M p) := by
  have e3 : (im_B (im_A M p)).2.1 163 1 = nI p := e2
  obtain ⟨g1, g2⟩ := x279_25 hp e3
  refine ⟨?_, ?_⟩
  · show (xg_279_65 lp_N (xg_279_25 lp_N (im_B (im_A M p)) 0).2 0).2 = _
    rw [g1, x279_65.1]
    rfl
  · exact ⟨g2, x279_65.2, trivial⟩
theorem pp_26 {M : ro_Mm} (h : ro_Inv M) : xp_279 (xm_150 M) := by
  obtain ⟨p, hp, e1, e2⟩ := ro_ppl h
  rw [mm_26 h hp e1]
  exact (mn_26 h hp e2).2
theorem pe_26 {M : ro_Mm} (h : ro_Inv M) : xf_279 (xm_150 M) = xf_150 M := by
  obtain ⟨p, hp, e1, e2⟩ := ro_ppl h
  have e3 : xm_151 M = im_A M p := mm_26 h hp e1
  have e0 : (0 : Int32).toNatClampNeg = 0 := by decide
  unfold xf_150 xf_149
  rw [mm_26 h hp e1, e3, if_neg (by decide), if_neg (by decide), e0]
  exact h.2.1.2.2.1 0 (by decide)
theorem pi_26 {M : ro_Mm} (h : ro_Inv M) : ro_Inv (xm_279 (xm_150 M)) := by
  obtain ⟨p, hp, e1, e2⟩ := ro_ppl h
  have hl := xl_279 (xl_150 h.1 (pc_26 h)) (pp_26 h)
  obtain ⟨ha1, ha2, ha3, ha4, ha5, ha6, ha7, ha8, ha9, ha10, ha11, ha12⟩ := h.2.1.1
  have hb := h.2.1.2.1
  have hd := h.2.1.2.2.2.1
  rw [e1] at ha2 ha3
  rw [mm_26 h hp e1, (mn_26 h hp e2).1] at hl ⊢
  refine ⟨hl, ⟨⟨h.2.1.1, hb, h.2.1.2.2.1, ⟨⟨rfl, Or.inr rfl⟩, ⟨e2, ha2, ha3⟩, ⟨ha7, ha8, ha9⟩, ?_, ?_⟩, h.2.1.2.2.2.2⟩, ?_⟩⟩
  · intro i hi
    have b := hb i hi
    have d := hd.2.2.2.1 i hi
    refine ⟨?_, ?_⟩
    · show ro_cp4 M.2.1 185 186 164 165 0 p 185 i = ro_cp4 M.2.1 13 14 7 8 0 p 13 i ∧ 0 ≤ ro_cp4 M.2.1 13 14 7 8 0 p 13 i ∧ ro_cp4 M.2.1 13 14 7 8 0 p 13 i ≤ 20
      rw [cp4_1 (by decide), cp4_1 (by decide)]
      by_cases q : i < p
      · rw [if_pos q, if_pos q]; exact b.1
      · rw [if_neg q, if_neg q]; exact d.1
    · show ro_cp4 M.2.1 185 186 164 165 0 p 186 i = ro_cp4 M.2.1 13 14 7 8 0 p 14 i ∧ 0 ≤ ro_cp4 M.2.1 13 14 7 8 0 p 14 i ∧ ro_cp4 M.2.1 13 14 7 8 0 p 14 i ≤ 20
      rw [cp4_2 (by decide), cp4_2 (by decide)]
      by_cases q : i < p
      · rw [if_pos q, if_pos q]; exact b.2.1
      · rw [if_neg q, if_neg q]; exact d.2
  · intro j hj
    show ro_cp4 M.2.1 187 187 184 184 0 4 187 j = va_cpy (M.2.1 11) (M.2.1 15) (0 : Int32).toNatClampNeg (0 : Int32).toNatClampNeg (4 : Int32).toNatClampNeg j
    rw [cp4_3 hj, cpy_4 hj]
    exact h.2.1.2.2.1 j hj
  · intro s hs
    have g := h.2.2 s hs
    rcases (show s = 0 ∨ s = 1 ∨ s = 2 ∨ s = 3 ∨ s = 4 ∨ s = 5 by omega) with e | e | e | e | e | e <;> rw [e] at g ⊢ <;> exact g
/-- back -/
def bk_A (M : ro_Mm) (p : Nat) : ro_Mm := ro_sI (ro_cpI (M.1, ro_cp4 M.2.1 7 8 13 14 0 p, M.2.2.1, M.2.2.2) 15 0 11 0 4) 5 6 (M.2.1 5 12)
theorem ro_img {M : ro_Mm} (h : ro_Inv M) : ∃ p, p ≤ 6 ∧ M.2.1 5 11 = nI p ∧ M.2.1 163 44 = nI p := by
  obtain ⟨_, ⟨d1, d2, d3⟩, _⟩ := h.2.1.2.2.2.1
  exact ⟨(M.2.1 5 11).toNatClampNeg, ro_cle (n := 6) d2 d3 (by decide), ro_nI_of d2, d1.trans (ro_nI_of d2)⟩
theorem pc_27 {M : ro_Mm} (h : ro_Inv M) : xp_152 M := by
  obtain ⟨p, hp, e1, e2⟩ := ro_img h
  unfold xp_152 xp_153
  rw [e1]
  exact ⟨⟨fun _ => trivial, fun _ => ⟨(x68_27 hp).2, trivial⟩⟩, trivial⟩
theorem mm_27 {M : ro_Mm} {p : Nat} (hp : p ≤ 6) (e1 : M.2.1 5 11 = nI p) (hz : ¬ M.2.1 5 10 = 0) : xm_152 M = bk_A M p := by
  unfold xm_152 xm_153
  rw [if_neg hz, e1, (x68_27 hp).1]
  rfl
theorem mn_27 {M : ro_Mm} {p : Nat} (hp : p ≤ 6) (e2 : M.2.1 163 44 = nI p) (hz : ¬ M.2.1 163 43 = 0) : xm_280 (bk_A M p) = (M.1, ro_cp4 (ro_cp4 (ro_sI (bk_A M p) 168 1 (M.2.1 163 45)).2.1 164 165 185 186 0 p) 184 184 187 187 0 4, M.2.2.1, M.2.2.2) ∧ xp_280 (bk_A M p) ∧ xf_280 (bk_A M p) = M.2.1 187 0 := by
  have e3 : (ro_sI (bk_A M p) 168 1 (M.2.1 163 45)).2.1 163 44 = nI p := e2
  have hz2 : ¬ (bk_A M p).2.1 163 43 = 0 := hz
  obtain ⟨g1, g2⟩ := x280_22 hp e3
  refine ⟨?_, ⟨fun z => absurd z hz2, fun _ => ⟨g2, x280_62.2, trivial⟩⟩, ?_⟩
  · unfold xm_280
    rw [if_neg hz2]
    show (xg_280_62 lp_N (xg_280_22 lp_N (ro_sI (bk_A M p) 168 1 (M.2.1 163 45)) 0).2 0).2 = _
    rw [g1, x280_62.1]
    rfl
  · unfold xf_280
    rw [if_neg hz2]
    show (xg_280_62 lp_N (xg_280_22 lp_N (ro_sI (bk_A M p) 168 1 (M.2.1 163 45)) 0).2 0).2.2.1 184 0 = _
    rw [g1, x280_62.1]
    show ro_cp4 (ro_cp4 (ro_sI (bk_A M p) 168 1 (M.2.1 163 45)).2.1 164 165 185 186 0 p) 184 184 187 187 0 4 184 0 = _
    rw [cp4_3 (by decide)]
    rfl
theorem pp_27 {M : ro_Mm} (h : ro_Inv M) : xp_280 (xm_152 M) := by
  obtain ⟨⟨d1, d2⟩, _⟩ := h.2.1.2.2.2.1
  obtain ⟨p, hp, e1, e2⟩ := ro_img h
  by_cases hz : M.2.1 5 10 = 0
  · have e3 : xm_152 M = M := by unfold xm_152 xm_153; rw [if_pos hz]
    rw [e3]
    exact ⟨fun _ => trivial, fun z => absurd (d1.trans hz) z⟩
  · rw [mm_27 hp e1 hz]
    exact (mn_27 hp e2 (by rw [d1]; exact hz)).2.1
theorem pe_27 {M : ro_Mm} (h : ro_Inv M) : xf_280 (xm_152 M) = xf_152 M := by
  obtain ⟨⟨d1, d2⟩, _, _, _, d5⟩ := h.2.1.2.2.2.1
  obtain ⟨p, hp, e1, e2⟩ := ro_img h
  have e0 : (0 : Int32).toNatClampNeg = 0 := by decide
  by_cases hz : M.2.1 5 10 = 0
  · have e3 : xm_152 M = M := by unfold xm_152 xm_153; rw [if_pos hz]
    rw [e3]
    unfold xf_280 xf_152 xf_153
    rw [if_pos (d1.trans hz), if_pos hz]
    rfl
  · have e3 : xm_153 M = bk_A M p := mm_27 hp e1 hz
    rw [mm_27 hp e1 hz, (mn_27 hp e2 (by rw [d1]; exact hz)).2.2]
    unfold xf_152 xf_153 xf_149
    rw [if_neg hz, if_pos rfl, e3, if_neg (by decide), if_neg (by decide), e0]
    show _ = va_cpy (M.2.1 15) (M.2.1 11) (0 : Int32).toNatClampNeg (0 : Int32).toNatClampNeg (4 : Int32).toNatClampNeg 0
    rw [cpy_4 (by decide)]
    exact d5 0 (by decide)
theorem pi_27 {M : ro_Mm} (h : ro_Inv M) : ro_Inv (xm_280 (xm_152 M)) := by
  obtain ⟨⟨d1, d2⟩, d3, ⟨d4, d5, d6⟩, d7, d8⟩ := h.2.1.2.2.2.1
  obtain ⟨p, hp, e1, e2⟩ := ro_img h
  obtain ⟨ha1, ha2, ha3, ha4, ha5, ha6, ha7, ha8, ha9, ha10, ha11, ha12⟩ := h.2.1.1
  by_cases hz : M.2.1 5 10 = 0
  · have e3 : xm_152 M = M := by unfold xm_152 xm_153; rw [if_pos hz]
    have e4 : xm_280 M = M := by unfold xm_280; rw [if_pos (d1.trans hz)]
    rw [e3, e4]
    exact h
  · have hl := xl_280 (xl_152 h.1 (pc_27 h)) (pp_27 h)
    have hb := h.2.1.2.1
    rw [mm_27 hp e1 hz, (mn_27 hp e2 (by rw [d1]; exact hz)).1] at hl ⊢
    refine ⟨hl, ⟨⟨⟨ha1, ha2, ha3, ha4, ha5, ha6, d4, d5, d6, ha10, ha11, ha12⟩, ?_, ?_, h.2.1.2.2.2⟩, ?_⟩⟩
    · intro i hi
      have b := hb i hi
      have d := d7 i hi
      refine ⟨?_, ?_, b.2.2⟩
      · show ro_cp4 M.2.1 164 165 185 186 0 p 164 i = ro_cp4 M.2.1 7 8 13 14 0 p 7 i ∧ 0 ≤ ro_cp4 M.2.1 7 8 13 14 0 p 7 i ∧ ro_cp4 M.2.1 7 8 13 14 0 p 7 i ≤ 20
        rw [cp4_1 (by decide), cp4_1 (by decide)]
        by_cases q : i < p
        · rw [if_pos q, if_pos q]; exact d.1
        · rw [if_neg q, if_neg q]; exact b.1
      · show ro_cp4 M.2.1 164 165 185 186 0 p 165 i = ro_cp4 M.2.1 7 8 13 14 0 p 8 i ∧ 0 ≤ ro_cp4 M.2.1 7 8 13 14 0 p 8 i ∧ ro_cp4 M.2.1 7 8 13 14 0 p 8 i ≤ 20
        rw [cp4_2 (by decide), cp4_2 (by decide)]
        by_cases q : i < p
        · rw [if_pos q, if_pos q]; exact d.2
        · rw [if_neg q, if_neg q]; exact b.2.1
    · intro j hj
      show ro_cp4 M.2.1 184 184 187 187 0 4 184 j = va_cpy (M.2.1 15) (M.2.1 11) (0 : Int32).toNatClampNeg (0 : Int32).toNatClampNeg (4 : Int32).toNatClampNeg j
      rw [cp4_3 hj, cpy_4 hj]
      exact d8 j hj
    · intro s hs
      have g := h.2.2 s hs
      rcases (show s = 0 ∨ s = 1 ∨ s = 2 ∨ s = 3 ∨ s = 4 ∨ s = 5 by omega) with e | e | e | e | e | e <;> rw [e] at g ⊢ <;> exact g
end PAIRS4

