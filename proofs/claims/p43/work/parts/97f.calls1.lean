/-! the class's calls, as the law sees them: of, led, person, mend, feed, count -/
section CALLS1
variable {X : ro_Sx} {L : List (List Int32 × List Int32)} {M : ro_Mm}
theorem kg_c {c j : Nat} (h : c < 163) : (kg L M).2.1 c j = M.2.1 c j := if_pos h
theorem kg_J {c j : Nat} (h : c < 163) : (kg L M).2.2.1 c j = M.2.2.1 c j := if_pos h
/-- the class's invariant, out of the pair's -/
theorem kv_fin {S : Nat → Nat → Bool} {R M2 : ro_Mm} (hk : kv L M) (hR : ro_Inv R) (hw : kw S M M2) (h8 : S 16 8 = false) (h9 : ∀ k, S 19 k = false) (e : ∀ c j, c < 163 → M2.2.1 c j = R.2.1 c j) : kv L M2 := by
  obtain ⟨_, ⟨ha, hb, hc, hd, he, hf, hg, hh⟩, hs⟩ := hR
  refine ⟨kw_q hk.1 hw, ?_, fun i hi => ?_, ?_, ?_, ?_, ?_, ?_, fun s hs6 => ?_⟩
  · obtain ⟨a1, a2, a3, a4, a5, a6, a7, a8, a9, a10, a11, a12⟩ := ha
    unfold kv_a
    rw [e 5 4 (by decide), e 5 5 (by decide), e 5 6 (by decide), e 5 7 (by decide)]
    exact ⟨a2, a3, a5, a6, a8, a9, a11, a12⟩
  · obtain ⟨b1, b2, b3, b4⟩ := hb i hi
    rw [e 7 i (by decide), e 8 i (by decide), e 9 i (by decide), e 10 i (by decide)]
    exact ⟨b1.2, b2.2, b3.2, b4.2⟩
  · obtain ⟨d1, d2, d3, d4, _⟩ := hd
    unfold kv_d
    rw [e 5 10 (by decide), e 5 11 (by decide), e 5 12 (by decide)]
    refine ⟨d1.2, d2.2, d3.2, fun i hi => ?_⟩
    rw [e 13 i (by decide), e 14 i (by decide)]
    exact ⟨(d4 i hi).1.2, (d4 i hi).2.2⟩
  · unfold kv_e
    rw [e 16 5 (by decide)]
    refine ⟨he.1.2, fun i hi => ?_⟩
    rw [e 17 i (by decide)]
    exact (he.2 i hi).2
  · obtain ⟨f1, f2, f3, f4, f5⟩ := hk.2.2.2.2.2.1
    refine ⟨f1, f2, ?_, fun k hk => ?_, f5⟩
    · rw [hw.2.1 16 8 (by decide) rfl h8]; exact f3
    · rw [hw.2.1 19 k (by decide) rfl (h9 k)]; exact f4 k hk
  · obtain ⟨⟨_, _, g1, g2, g3, g4, g5⟩, g6⟩ := hg
    unfold kv_g
    rw [e 54 4 (by decide), e 54 5 (by decide)]
    refine ⟨⟨g1, g2, g3, g4, g5⟩, fun i hi => ?_⟩
    rw [e 55 i (by decide), e 56 i (by decide), e 57 i (by decide), e 58 i (by decide)]
    obtain ⟨k1, k2, k3, k4⟩ := g6 i hi
    exact ⟨k1.2, k2.2, k3.2, k4.2⟩
  · obtain ⟨h1, h2, h3, _⟩ := hh
    unfold kv_h
    rw [e 59 2 (by decide), e 59 3 (by decide)]
    refine ⟨h1.2, h2.2, fun i hi => ?_⟩
    rw [e 60 i (by decide)]
    exact (h3 i hi).2
  · have l : ∀ j, M2.2.1 (23 + 2 * s) j = R.2.1 (23 + 2 * s) j := fun j => e _ j (by omega)
    unfold kv_sh
    rw [l, l, l, e 59 2 (by decide)]
    rcases hs s hs6 with h1 | h1 | h1
    · exact Or.inl h1.1
    · refine Or.inr (Or.inl ⟨h1.1, ?_, ?_⟩)
      · rw [← h1.2.1]; exact h1.2.2.1
      · rw [← h1.2.1]; exact h1.2.2.2
    · exact Or.inr (Or.inr ⟨h1.1, h1.2.1, h1.2.2.2.2.1, h1.2.2.2.2.2.1⟩)
theorem x29_t {A : ro_Mm} {p i : Nat} (hp : p ≤ 6) (e1 : A.2.1 5 4 = nI p) (hi : i < p) : xf_29 A (nI i) = true := by
  obtain ⟨n1, n2, n3, n4⟩ := ro_n6 (k := i) (by omega)
  unfold xf_29
  rw [if_neg n1, e1, if_neg (ro_npk hi hp), if_neg n2]
theorem x28_t {A : ro_Mm} {p i : Nat} (hp : p ≤ 6) (e1 : A.2.1 5 4 = nI p) (hi : i < p) {w : Int32} (hw : 0 ≤ w ∧ w ≤ 3) : xf_28 A (nI i) w = true := by
  unfold xf_28
  rw [if_neg (Int32.not_lt.mpr hw.1), if_neg (Int32.not_lt.mpr hw.2)]
  exact x29_t hp e1 hi
theorem x28_4 {A : ro_Mm} {w : Int32} (hw : 4 ≤ w ∧ w ≤ 6) : xf_28 A 0 w = true := by
  unfold xf_28
  have a1 : ¬ w < 0 := by grind
  have a2 : 3 < w := by grind
  rw [if_neg a1, if_pos a2, if_neg (Int32.not_lt.mpr hw.1), if_neg (Int32.not_lt.mpr hw.2), if_pos rfl]
theorem ca_of_x (hk : kv L M) {v w : Int32} : ro_cwp X 4 36 [.ref 4, .int v, .int w] M (fun r M2 => r = some (.int (xf_36 (kg L M) v w)) ∧ kq M M2) :=
  kc_r hk rfl rfl (xs_36 (kg_lay hk.1)) (fun _ _ _ _ => rfl) (fun _ _ _ _ => rfl)
theorem ca_of0 (hk : kv L M) {p i : Nat} (hp : p ≤ 6) (e1 : M.2.1 5 4 = nI p) (hi : i < p) : ro_cwp X 4 36 [.ref 4, .int (nI i), .int 0] M (fun r M2 => r = some (.int (M.2.1 7 i)) ∧ kq M M2) := by
  have h := ca_of_x (X := X) hk (v := nI i) (w := 0)
  have e : xf_36 (kg L M) (nI i) 0 = M.2.1 7 i := by
    unfold xf_36
    rw [if_pos (x28_t hp ((kg_c (by decide)).trans e1) hi (by decide)), x30_0 (by omega)]
    exact kg_c (by decide)
  rw [e] at h
  exact h
theorem ca_of1 (hk : kv L M) {p i : Nat} (hp : p ≤ 6) (e1 : M.2.1 5 4 = nI p) (hi : i < p) : ro_cwp X 4 36 [.ref 4, .int (nI i), .int 1] M (fun r M2 => r = some (.int (M.2.1 8 i)) ∧ kq M M2) := by
  have h := ca_of_x (X := X) hk (v := nI i) (w := 1)
  have e : xf_36 (kg L M) (nI i) 1 = M.2.1 8 i := by
    unfold xf_36
    rw [if_pos (x28_t hp ((kg_c (by decide)).trans e1) hi (by decide)), x30_1 (by omega)]
    exact kg_c (by decide)
  rw [e] at h
  exact h
theorem ca_of4 (hk : kv L M) : ro_cwp X 4 36 [.ref 4, .int 0, .int 4] M (fun r M2 => r = some (.int (M.2.1 5 5)) ∧ kq M M2) := by
  have h := ca_of_x (X := X) hk (v := 0) (w := 4)
  have e : xf_36 (kg L M) 0 4 = M.2.1 5 5 := by
    unfold xf_36
    rw [if_pos (x28_4 (by decide)), x30_4]
    exact kg_c (by decide)
  rw [e] at h
  exact h
theorem ca_of6 (hk : kv L M) : ro_cwp X 4 36 [.ref 4, .int 0, .int 6] M (fun r M2 => r = some (.int (M.2.1 5 7)) ∧ kq M M2) := by
  have h := ca_of_x (X := X) hk (v := 0) (w := 6)
  have e : xf_36 (kg L M) 0 6 = M.2.1 5 7 := by
    unfold xf_36
    rw [if_pos (x28_4 (by decide)), x30_6]
    exact kg_c (by decide)
  rw [e] at h
  exact h
theorem ca_of7 (hk : kv L M) {p i : Nat} (hp : p ≤ 6) (e1 : M.2.1 5 4 = nI p) (hi : i < p) : ro_cwp X 4 36 [.ref 4, .int (nI i), .int 7] M (fun r M2 => r = some (.int (4 * M.2.1 7 i + M.2.1 5 5 * M.2.1 8 i)) ∧ kq M M2) := by
  have h := ca_of_x (X := X) hk (v := nI i) (w := 7)
  have e0 : (kg L M).2.1 5 4 = nI p := (kg_c (by decide)).trans e1
  have e : xf_36 (kg L M) (nI i) 7 = 4 * M.2.1 7 i + M.2.1 5 5 * M.2.1 8 i := by
    have n28 : ¬ xf_28 (kg L M) (nI i) 7 = true := by
      unfold xf_28
      rw [if_neg (by decide), if_pos (by decide), if_neg (by decide), if_pos (by decide)]; decide
    unfold xf_36
    rw [if_neg n28, if_pos (x29_t hp e0 hi), if_pos rfl]
    unfold xf_37 xf_38
    rw [x31 (by omega), x32 (by omega), kg_c (by decide), kg_c (by decide), kg_c (by decide)]
  rw [e] at h
  exact h
theorem ca_of8 (hk : kv L M) {p i : Nat} (hp : p ≤ 6) (e1 : M.2.1 5 4 = nI p) (hi : i < p) : ro_cwp X 4 36 [.ref 4, .int (nI i), .int 8] M (fun r M2 => r = some (.int (ro_min (M.2.1 10 i) (M.2.1 8 i))) ∧ kq M M2) := by
  have h := ca_of_x (X := X) hk (v := nI i) (w := 8)
  have e0 : (kg L M).2.1 5 4 = nI p := (kg_c (by decide)).trans e1
  have e : xf_36 (kg L M) (nI i) 8 = ro_min (M.2.1 10 i) (M.2.1 8 i) := by
    have n28 : ¬ xf_28 (kg L M) (nI i) 8 = true := by
      unfold xf_28
      rw [if_neg (by decide), if_pos (by decide), if_neg (by decide), if_pos (by decide)]; decide
    unfold xf_36
    rw [if_neg n28, if_pos (x29_t hp e0 hi), if_neg (by decide), if_pos rfl]
    unfold xf_39
    rw [x30_3 (by omega), x32 (by omega), kg_c (by decide), kg_c (by decide)]
  rw [e] at h
  exact h
theorem ca_led (hk : kv L M) {k : Nat} (hk4 : k < 4) : ro_cwp X 2 148 [.ref 4, .int (nI k)] M (fun r M2 => r = some (.int (M.2.1 11 k)) ∧ kq M M2) := by
  have h := kc_r (A := some (.int (xf_148 (kg L M) (nI k)))) hk rfl rfl (xs_148 (X := X) (v1 := nI k) (kg_lay hk.1)) (fun _ _ _ _ => rfl) (fun _ _ _ _ => rfl)
  have e : xf_148 (kg L M) (nI k) = M.2.1 11 k := by
    obtain ⟨n1, n2, n3⟩ := ro_n4 hk4
    have n0 : ¬ nI k < 0 := nI_pos (by omega)
    have w : xf_13 (kg L M) (nI k) 0 3 = true := by
      unfold xf_13
      rw [if_neg n0, if_neg (by show ¬ nI 3 < nI k; exact fun q => (nI_ge (show k < 4 by omega) (by omega)) (by
        have := Int32.lt_iff_toInt_lt.mp q
        rw [nI_toInt (by omega), nI_toInt (by omega)] at this
        omega))]
    unfold xf_148 xf_149
    rw [if_pos w, if_neg n0, if_neg n1, n2, kg_c (by decide)]
  rw [e] at h
  exact h
theorem ca_cnt3 (hk : kv L M) : ro_cwp X 4 190 [.ref 4, .int 3] M (fun r M2 => r = some (.int (M.2.1 16 5)) ∧ kq M M2) := by
  have h := kc_r (A := some (.int (xf_190 (kg L M) 3))) hk rfl rfl (xs_190 (X := X) (v1 := 3) (kg_lay hk.1) (pc_39 (kg_inv hk).1)) (fun _ _ _ _ => rfl) (fun _ _ _ _ => rfl)
  have e : xf_190 (kg L M) 3 = M.2.1 16 5 := by
    unfold xf_190 xf_42
    rw [if_neg (by decide), if_neg (by decide), if_neg (by decide), if_pos rfl, kg_c (by decide)]
  rw [e] at h
  exact h
def kS_p (p : Nat) (c j : Nat) : Bool := (c == 5 && j == 4) || ((c == 7 || c == 8 || c == 9 || c == 10) && j == p)
theorem ca_person (hk : kv L M) {p w : Nat} (hp : p < 6) (e1 : M.2.1 5 4 = nI p) (hw : w ≤ 20) : ro_cwp X 3 12 [.ref 4, .int (nI w)] M (fun r M2 => r = some (.int (nI p)) ∧ kv L M2 ∧ kw (kS_p p) M M2 ∧ M2.2.1 5 4 = nI (p + 1) ∧ M2.2.1 7 p = nI w ∧ M2.2.1 8 p = 0 ∧ M2.2.1 9 p = 3 ∧ M2.2.1 10 p = 0) := by
  have hI := (kg_inv hk).1
  have e0 : (kg L M).2.1 5 4 = nI p := (kg_c (by decide)).trans e1
  have hw2 : (0 : Int32) ≤ nI w ∧ nI w ≤ 20 := ⟨nI_le (a := 0) (by omega) (by omega), nI_le (b := 20) (by omega) (by omega)⟩
  have hp2 : nI p < 6 := nI_lt (b := 6) (by omega) (by omega)
  have hp0 : (0 : Int32) ≤ nI p := nI_le (a := 0) (by omega) (by omega)
  have ep : (nI p).toNatClampNeg = p := nI_clamp (by omega)
  obtain ⟨x1, x2⟩ := ro_in14 (M := kg L M) (w := nI w) (c := 0) (p := 3) (by rw [e0]; exact hp0) (by rw [e0]; exact hp2) hw2 (by decide) (by decide)
  have w13 : xf_13 (kg L M) (nI w) 0 20 = true := ro_w13.mpr hw2
  have f12 : xf_12 (kg L M) (nI w) = nI p := by
    unfold xf_12 xf_18
    rw [if_pos w13, x2, if_pos x1]
    show (kg L M).2.1 5 4 + 1 - 1 = _
    rw [e0, Int32.add_sub_cancel]
  have m12 : xm_12 (kg L M) (nI w) = ro_sI (ro_sI (ro_sI (ro_sI (ro_sI (kg L M) 7 p (nI w)) 8 p 0) 9 p 3) 10 p 0) 5 4 (nI (p + 1)) := by
    unfold xm_12
    rw [if_pos w13, x2, e0, ep, nI_succ]
  have h := kc_w (S := kS_p p) (A := some (.int (xf_12 (kg L M) (nI w)))) hk rfl rfl (xs_12 (X := X) (v1 := nI w) (kg_lay hk.1)) (fun c j h1 h2 h3 => by
      rw [m12]
      unfold kS_p at h3
      simp only [Bool.or_eq_false_iff, Bool.and_eq_false_iff, beq_eq_false_iff_ne] at h3
      rw [ro_rd_s, if_neg (by omega), ro_rd_s, if_neg (by omega), ro_rd_s, if_neg (by omega), ro_rd_s, if_neg (by omega), ro_rd_s, if_neg (by omega)])
    (fun c j h1 h2 h3 => xwJ_12)
  refine ro_cwp_up (Nat.le_refl _) ?_ h
  rintro r M2 ⟨g1, g2, g3⟩
  refine ⟨by rw [g1, f12], kv_fin hk (pi_0 hI (v1 := nI w)) g2 rfl (fun k => rfl) (fun c j hc => ?_), g2, ?_, ?_, ?_, ?_, ?_⟩
  · rw [(g3 c hc).1]
    exact (xwI_194 (by omega) (by omega) (by omega) (by omega) (by omega)).symm
  all_goals rw [(g3 _ (by decide)).1, m12]; simp [ro_rd_s]
end CALLS1
