/-! the class's calls, on: odds, offer, image, back, how many coins -/
section CALLS3
variable {X : ro_Sx} {L : List (List Int32 × List Int32)} {M : ro_Mm}
theorem ab_x {i j : Nat} (hi : i < 6) (hj : j < 6) : nI (10 * i + j) / 10 = nI i ∧ ro_irem (nI (10 * i + j)) 10 = nI j ∧ ¬ nI (10 * i + j) < 0 := by
  have e : (10 : Int32) = nI 10 := rfl
  refine ⟨?_, ?_, nI_pos (by omega)⟩
  · rw [e, nI_div (by omega) (by decide)]
    congr 1
    omega
  · rw [e, nI_rem (by omega) (by decide)]
    congr 1
    omega
theorem x57_t {A : ro_Mm} {p i j : Nat} (hp : p ≤ 6) (e1 : A.2.1 5 4 = nI p) (hi : i < p) (hj : j < p) (hij : i ≠ j) : xf_57 A (nI i) (nI j) = true := by
  unfold xf_57
  rw [if_neg (fun q => hij ((nI_eq (by omega) (by omega)).mp q)), if_pos (x29_t hp e1 hi), if_pos (x29_t hp e1 hj)]
theorem x56_t {A : ro_Mm} {p i j : Nat} (hp : p ≤ 6) (e1 : A.2.1 5 4 = nI p) (hi : i < p) (hj : j < p) (hij : i ≠ j) : xf_56 A (nI (10 * i + j)) = true := by
  obtain ⟨a1, a2, a3⟩ := ab_x (i := i) (j := j) (by omega) (by omega)
  unfold xf_56
  rw [if_neg a3, a1, a2, if_pos (x57_t hp e1 hi hj hij)]
theorem ca_odds (hk : kv L M) {p i j : Nat} (hp : p ≤ 6) (e1 : M.2.1 5 4 = nI p) (hi : i < p) (hj : j < p) (hij : i ≠ j) : ro_cwp X 4 55 [.ref 4, .int (nI (10 * i + j))] M (fun r M2 => r = some (.int (odv M L i j (M.2.1 7 j) (M.2.1 8 j))) ∧ kq M M2) := by
  have hI := (kg_inv hk).1
  have e0 : (kg L M).2.1 5 4 = nI p := (kg_c (by decide)).trans e1
  obtain ⟨a1, a2, a3⟩ := ab_x (i := i) (j := j) (by omega) (by omega)
  obtain ⟨o1, o2, o3, o4, o5⟩ := (kg_od hk).2.1 (kg L M) 6 i j (ro_eqv_r hI.1) (by unfold ro_ip; decide) (by omega) (by omega)
  have q := x56_t hp e0 hi hj hij
  have f55 : xf_55 (kg L M) (nI (10 * i + j)) = odv M L i j (M.2.1 7 j) (M.2.1 8 j) := by
    unfold xf_55
    rw [if_pos q, a1, a2, o1, kg_c (by decide), kg_c (by decide)]
  have m55 : xm_55 (kg L M) (nI (10 * i + j)) = xm_58 (kg L M) 6 (nI i) (nI j) := by
    unfold xm_55
    rw [if_pos q, a1, a2]
  have h := kc_r (A := some (.int (xf_55 (kg L M) (nI (10 * i + j))))) hk rfl rfl (xs_55 (X := X) (v1 := nI (10 * i + j)) (kg_lay hk.1) (all_6 hI).1) (fun c j h1 h2 => by rw [m55]; exact o3.2.1 c j h2) (fun c j h1 h2 => by rw [m55]; exact o3.2.2 c j h2)
  rw [f55] at h
  exact h
def kS_o (c _j : Nat) : Bool := c == 7 || c == 8 || c == 11
theorem ca_off_x (hk : kv L M) {p i j : Nat} (hp : p ≤ 6) (e1 : M.2.1 5 4 = nI p) (hi : i < p) (hj : j < p) (hij : i ≠ j) {kd : Int32} : ro_cwp X 4 144 [.ref 4, .int (nI (10 * i + j)), .int kd] M (fun r M2 => r = some (.int (xf_144 (kg L M) (nI (10 * i + j)) kd)) ∧ kv L M2 ∧ kw kS_o M M2 ∧ ∀ c k, c < 163 → M2.2.1 c k = (xm_144 (kg L M) (nI (10 * i + j)) kd).2.1 c k) := by
  have hI := (kg_inv hk).1
  have h := kc_w (S := kS_o) (A := some (.int (xf_144 (kg L M) (nI (10 * i + j)) kd))) hk rfl rfl (xs_144 (X := X) (v1 := nI (10 * i + j)) (v2 := kd) (kg_lay hk.1)) (fun c j h1 h2 h3 => by
      unfold kS_o at h3
      simp only [Bool.or_eq_false_iff, beq_eq_false_iff_ne] at h3
      exact xwI_144 (by omega) (by omega) (by omega))
    (fun c j h1 h2 h3 => xwJ_144)
  refine ro_cwp_up (Nat.le_refl _) ?_ h
  rintro r M2 ⟨g1, g2, g3⟩
  refine ⟨g1, kv_fin hk (pi_22 hI (v1 := nI (10 * i + j)) (v2 := kd)) g2 rfl (fun k => rfl) (fun c j hc => ?_), g2, fun c k hc => by rw [(g3 c hc).1]⟩
  rw [(g3 c hc).1]
  exact (xwI_274 (by omega) (by omega) (by omega) (by omega) (by omega)).symm
theorem kg_at {p : Nat} {S : pu_T} (h : pu_at p M 6 S) : pu_at p (kg L M) 6 S := fun k hk => ⟨(kg_c (by decide)).trans (h k hk).1, (kg_c (by decide)).trans (h k hk).2⟩
theorem ca_off0 (hk : kv L M) {p i j : Nat} {S : pu_T} (hp : p ≤ 6) (e1 : M.2.1 5 4 = nI p) (hi : i < p) (hj : j < p) (hij : i ≠ j) (hS : pu_at p M 6 S) (hm : pu_mw S i j = true) : ro_cwp X 4 144 [.ref 4, .int (nI (10 * i + j)), .int 0] M (fun r M2 => r = some (.int (nI j)) ∧ kv L M2 ∧ kw kS_o M M2 ∧ pu_at p M2 6 (pu_gw S i j) ∧ M2.2.1 11 0 = M.2.1 11 0 + 1 ∧ M2.2.1 11 1 = M.2.1 11 1) := by
  have e0 : (kg L M).2.1 5 4 = nI p := (kg_c (by decide)).trans e1
  obtain ⟨a1, a2, a3⟩ := ab_x (i := i) (j := j) (by omega) (by omega)
  have q := x56_t hp e0 hi hj hij
  have w := pu_75 (kg_at (L := L) hS) hp hi hj
  have f : xf_144 (kg L M) (nI (10 * i + j)) 0 = nI j := by
    unfold xf_144
    rw [if_pos q, if_pos (ro_w13.mpr (by decide)), if_neg (by decide), a1, a2, w, if_pos hm, if_neg (by decide)]
  have m : xm_144 (kg L M) (nI (10 * i + j)) 0 = xm_78 (ro_sI (kg L M) 11 0 (M.2.1 11 0 + 1)) 6 (nI i) (nI j) := by
    unfold xm_144 xm_145
    rw [if_pos q, if_pos (ro_w13.mpr (by decide)), if_neg (by decide), a1, a2, w, if_pos hm, if_neg (by decide), if_pos rfl, if_neg (by decide), if_neg (by decide)]
    show xm_78 (ro_sI (kg L M) 11 0 ((kg L M).2.1 11 0 + 1)) 6 (nI i) (nI j) = _
    rw [kg_c (by decide)]
  have hS2 : pu_at p (ro_sI (kg L M) 11 0 (M.2.1 11 0 + 1)) 6 S := pu_at_c (kg_at (L := L) hS) (fun k _ => ⟨ro_sI_ne (by decide), ro_sI_ne (by decide)⟩)
  obtain ⟨t1, t2⟩ := pu_78 hS2 hp hi hj hij
  refine ro_cwp_up (Nat.le_refl _) ?_ (ca_off_x hk hp e1 hi hj hij)
  rintro r M2 ⟨g1, g2, g3, g4⟩
  rw [m] at g4
  refine ⟨by rw [g1, f], g2, g3, fun k hk2 => ⟨(g4 _ _ (by decide)).trans (t1 k hk2).1, (g4 _ _ (by decide)).trans (t1 k hk2).2⟩, ?_, ?_⟩
  · rw [g4 _ _ (by decide), t2.2.2 11 0 (by decide) (by decide), ro_sI_eq]
  · rw [g4 _ _ (by decide), t2.2.2 11 1 (by decide) (by decide), ro_sI_nj (by decide), kg_c (by decide)]
theorem ca_off2 (hk : kv L M) {p i j : Nat} {S : pu_T} (hp : p ≤ 6) (e1 : M.2.1 5 4 = nI p) (hi : i < p) (hj : j < p) (hij : i ≠ j) (hS : pu_at p M 6 S) (hm : pu_mc S i j = true) : ro_cwp X 4 144 [.ref 4, .int (nI (10 * i + j)), .int 2] M (fun r M2 => r = some (.int (nI j)) ∧ kv L M2 ∧ kw kS_o M M2 ∧ pu_at p M2 6 (pu_gc S i j) ∧ M2.2.1 11 0 = M.2.1 11 0 + 1 ∧ M2.2.1 11 1 = M.2.1 11 1) := by
  have e0 : (kg L M).2.1 5 4 = nI p := (kg_c (by decide)).trans e1
  obtain ⟨a1, a2, a3⟩ := ab_x (i := i) (j := j) (by omega) (by omega)
  have q := x56_t hp e0 hi hj hij
  have w := pu_73 (kg_at (L := L) hS) hp hi hj
  have f : xf_144 (kg L M) (nI (10 * i + j)) 2 = nI j := by
    unfold xf_144
    rw [if_pos q, if_pos (ro_w13.mpr (by decide)), if_pos rfl, a1, a2, w, if_pos hm]
  have m : xm_144 (kg L M) (nI (10 * i + j)) 2 = xm_74 (ro_sI (kg L M) 11 0 (M.2.1 11 0 + 1)) 6 (nI i) (nI j) := by
    unfold xm_144 xm_145
    rw [if_pos q, if_pos (ro_w13.mpr (by decide)), if_pos rfl, a1, a2, w, if_pos hm, if_neg (by decide), if_neg (by decide)]
    show xm_74 (ro_sI (kg L M) 11 0 ((kg L M).2.1 11 0 + 1)) 6 (nI i) (nI j) = _
    rw [kg_c (by decide)]
  have hS2 : pu_at p (ro_sI (kg L M) 11 0 (M.2.1 11 0 + 1)) 6 S := pu_at_c (kg_at (L := L) hS) (fun k _ => ⟨ro_sI_ne (by decide), ro_sI_ne (by decide)⟩)
  obtain ⟨t1, t2⟩ := pu_74 hS2 hp hi hj hij
  refine ro_cwp_up (Nat.le_refl _) ?_ (ca_off_x hk hp e1 hi hj hij)
  rintro r M2 ⟨g1, g2, g3, g4⟩
  rw [m] at g4
  refine ⟨by rw [g1, f], g2, g3, fun k hk2 => ⟨(g4 _ _ (by decide)).trans (t1 k hk2).1, (g4 _ _ (by decide)).trans (t1 k hk2).2⟩, ?_, ?_⟩
  · rw [g4 _ _ (by decide), t2.2.2 11 0 (by decide) (by decide), ro_sI_eq]
  · rw [g4 _ _ (by decide), t2.2.2 11 1 (by decide) (by decide), ro_sI_nj (by decide), kg_c (by decide)]
theorem ca_off1 (hk : kv L M) {p i j : Nat} {S : pu_T} (hp : p ≤ 6) (e1 : M.2.1 5 4 = nI p) (hi : i < p) (hj : j < p) (hij : i ≠ j) (hS : pu_at p M 6 S) (hm : pu_mw S i j = true) : ro_cwp X 4 144 [.ref 4, .int (nI (10 * i + j)), .int 1] M (fun r M2 => r = some (.int (nI i)) ∧ kv L M2 ∧ kw kS_o M M2 ∧ pu_at p M2 6 (pu_rf S i) ∧ M2.2.1 11 0 = M.2.1 11 0 + 1 ∧ M2.2.1 11 1 = M.2.1 11 1 + 1) := by
  have e0 : (kg L M).2.1 5 4 = nI p := (kg_c (by decide)).trans e1
  obtain ⟨a1, a2, a3⟩ := ab_x (i := i) (j := j) (by omega) (by omega)
  have q := x56_t hp e0 hi hj hij
  have w := pu_75 (kg_at (L := L) hS) hp hi hj
  have f : xf_144 (kg L M) (nI (10 * i + j)) 1 = nI i := by
    unfold xf_144
    rw [if_pos q, if_pos (ro_w13.mpr (by decide)), if_neg (by decide), a1, a2, w, if_pos hm, if_pos rfl]
  have hS2 : pu_at p (ro_sI (kg L M) 11 0 (M.2.1 11 0 + 1)) 6 S := pu_at_c (kg_at (L := L) hS) (fun k _ => ⟨ro_sI_ne (by decide), ro_sI_ne (by decide)⟩)
  obtain ⟨t1, t2⟩ := pu_77 hS2 hp hi
  have k1 : (xm_77 (ro_sI (kg L M) 11 0 (M.2.1 11 0 + 1)) 6 (nI i)).2.1 11 1 = M.2.1 11 1 := by
    rw [t2.2.2 11 1 (by decide) (by decide), ro_sI_nj (by decide), kg_c (by decide)]
  have k0 : (xm_77 (ro_sI (kg L M) 11 0 (M.2.1 11 0 + 1)) 6 (nI i)).2.1 11 0 = M.2.1 11 0 + 1 := by
    rw [t2.2.2 11 0 (by decide) (by decide), ro_sI_eq]
  have m : xm_144 (kg L M) (nI (10 * i + j)) 1 = ro_sI (xm_77 (ro_sI (kg L M) 11 0 (M.2.1 11 0 + 1)) 6 (nI i)) 11 1 (M.2.1 11 1 + 1) := by
    unfold xm_144
    rw [if_pos q, if_pos (ro_w13.mpr (by decide)), if_neg (by decide), a1, a2, w, if_pos hm, if_pos rfl]
    have m1 : xm_145 (kg L M) 0 = ro_sI (kg L M) 11 0 (M.2.1 11 0 + 1) := by
      unfold xm_145
      rw [if_neg (by decide), if_neg (by decide)]
      show ro_sI (kg L M) 11 0 ((kg L M).2.1 11 0 + 1) = _
      rw [kg_c (by decide)]
    rw [m1]
    unfold xm_145
    rw [if_neg (by decide), if_neg (by decide)]
    show ro_sI (xm_77 (ro_sI (kg L M) 11 0 (M.2.1 11 0 + 1)) 6 (nI i)) 11 1 ((xm_77 (ro_sI (kg L M) 11 0 (M.2.1 11 0 + 1)) 6 (nI i)).2.1 11 1 + 1) = _
    rw [k1]
  refine ro_cwp_up (Nat.le_refl _) ?_ (ca_off_x hk hp e1 hi hj hij)
  rintro r M2 ⟨g1, g2, g3, g4⟩
  rw [m] at g4
  refine ⟨by rw [g1, f], g2, g3, fun k hk2 => ⟨?_, ?_⟩, ?_, ?_⟩
  · rw [g4 _ _ (by decide), ro_sI_ne (by decide)]; exact (t1 k hk2).1
  · rw [g4 _ _ (by decide), ro_sI_ne (by decide)]; exact (t1 k hk2).2
  · rw [g4 _ _ (by decide), ro_sI_nj (by decide), k0]
  · rw [g4 _ _ (by decide), ro_sI_eq]
def kS_i (c j : Nat) : Bool := c == 13 || c == 14 || c == 15 || (c == 5 && (j == 10 || j == 11 || j == 12))
theorem ca_image (hk : kv L M) {p : Nat} (hp : p ≤ 6) (e1 : M.2.1 5 4 = nI p) : ro_cwp X 4 150 [.ref 4] M (fun r M2 => r = some (.int (M.2.1 11 0)) ∧ kv L M2 ∧ kw kS_i M M2 ∧ (∀ i, i < p → M2.2.1 13 i = M.2.1 7 i ∧ M2.2.1 14 i = M.2.1 8 i) ∧ (∀ j, j < 4 → M2.2.1 15 j = M.2.1 11 j) ∧ M2.2.1 5 10 = 1 ∧ M2.2.1 5 11 = nI p ∧ M2.2.1 5 12 = M.2.1 5 6) := by
  have hI := (kg_inv hk).1
  have e0 : (kg L M).2.1 5 4 = nI p := (kg_c (by decide)).trans e1
  have m150 := mm_26 hI hp e0
  have f150 : xf_150 (kg L M) = M.2.1 11 0 := by
    have e : xm_151 (kg L M) = im_A (kg L M) p := by rw [← m150]; rfl
    unfold xf_150 xf_149
    rw [e, if_neg (by decide), if_neg (by decide)]
    show (kg L M).2.1 11 0 = _
    exact kg_c (by decide)
  have h := kc_w (S := kS_i) (A := some (.int (xf_150 (kg L M)))) hk rfl rfl (xs_150 (X := X) (kg_lay hk.1) (pc_26 hI)) (fun c j h1 h2 h3 => by
      unfold kS_i at h3
      simp only [Bool.or_eq_false_iff, Bool.and_eq_false_iff, beq_eq_false_iff_ne] at h3
      by_cases e5 : c = 5
      · rw [m150]
        show (ro_sI (ro_sI (ro_sI _ 5 11 (nI p)) 5 12 _) 5 10 1).2.1 c j = _
        rw [ro_rd_s, if_neg (by omega), ro_rd_s, if_neg (by omega), ro_rd_s, if_neg (by omega)]
        show (ro_row (ro_cp4 (kg L M).2.1 13 14 7 8 0 p) 15 _) c j = _
        unfold ro_row ro_cp4
        rw [if_neg (by omega), if_neg (by omega), if_neg (by omega)]
      · exact xwI_150 (by omega) (by omega) (by omega) (by omega))
    (fun c j h1 h2 h3 => xwJ_150)
  refine ro_cwp_up (Nat.le_refl _) ?_ h
  rintro r M2 ⟨g1, g2, g3⟩
  refine ⟨by rw [g1, f150], kv_fin hk (pi_26 hI) g2 rfl (fun k => rfl) (fun c j hc => ?_), g2, fun i hi => ⟨?_, ?_⟩, fun j hj => ?_, ?_, ?_, ?_⟩
  · rw [(g3 c hc).1]
    exact (xwI_279 (by omega) (by omega) (by omega) (by omega)).symm
  · rw [(g3 _ (by decide)).1, m150]
    show ro_cp4 (kg L M).2.1 13 14 7 8 0 p 13 i = _
    rw [cp4_1 (by decide), if_pos hi, kg_c (by decide)]
  · rw [(g3 _ (by decide)).1, m150]
    show ro_cp4 (kg L M).2.1 13 14 7 8 0 p 14 i = _
    rw [cp4_2 (by decide), if_pos hi, kg_c (by decide)]
  · rw [(g3 _ (by decide)).1, m150]
    show va_cpy ((ro_cp4 (kg L M).2.1 13 14 7 8 0 p) 11) ((ro_cp4 (kg L M).2.1 13 14 7 8 0 p) 15) (0 : Int32).toNatClampNeg (0 : Int32).toNatClampNeg (4 : Int32).toNatClampNeg j = _
    rw [cpy_4 hj]
    unfold ro_cp4
    rw [if_neg (by omega), if_neg (by omega), kg_c (by decide)]
  · rw [(g3 _ (by decide)).1, m150]; rfl
  · rw [(g3 _ (by decide)).1, m150]; rfl
  · rw [(g3 _ (by decide)).1, m150]
    show (kg L M).2.1 5 6 = _
    exact kg_c (by decide)
def kS_b (c j : Nat) : Bool := c == 7 || c == 8 || c == 11 || (c == 5 && j == 6)
theorem ca_back (hk : kv L M) {p : Nat} (hp : p ≤ 6) (e1 : M.2.1 5 11 = nI p) (e2 : M.2.1 5 10 = 1) : ro_cwp X 4 152 [.ref 4] M (fun r M2 => r = some (.int (M.2.1 15 0)) ∧ kv L M2 ∧ kw kS_b M M2 ∧ (∀ i, i < p → M2.2.1 7 i = M.2.1 13 i ∧ M2.2.1 8 i = M.2.1 14 i) ∧ (∀ j, j < 4 → M2.2.1 11 j = M.2.1 15 j) ∧ M2.2.1 5 6 = M.2.1 5 12) := by
  have hI := (kg_inv hk).1
  have e0 : (kg L M).2.1 5 11 = nI p := (kg_c (by decide)).trans e1
  have z0 : ¬ (kg L M).2.1 5 10 = 0 := by rw [kg_c (by decide), e2]; decide
  have m152 := mm_27 hp e0 z0
  have r11 : ∀ j, j < 4 → (bk_A (kg L M) p).2.1 11 j = M.2.1 15 j := fun j hj => by
    show va_cpy ((ro_cp4 (kg L M).2.1 7 8 13 14 0 p) 15) ((ro_cp4 (kg L M).2.1 7 8 13 14 0 p) 11) (0 : Int32).toNatClampNeg (0 : Int32).toNatClampNeg (4 : Int32).toNatClampNeg j = _
    rw [cpy_4 hj]
    unfold ro_cp4
    rw [if_neg (by omega), if_neg (by omega), kg_c (by decide)]
  have f152 : xf_152 (kg L M) = M.2.1 15 0 := by
    have e : xm_153 (kg L M) = bk_A (kg L M) p := by rw [← m152]; rfl
    unfold xf_152 xf_153 xf_149
    rw [e, if_neg z0, if_pos rfl, if_neg (by decide), if_neg (by decide)]
    exact r11 0 (by decide)
  have h := kc_w (S := kS_b) (A := some (.int (xf_152 (kg L M)))) hk rfl rfl (xs_152 (X := X) (kg_lay hk.1) (pc_27 hI)) (fun c j h1 h2 h3 => by
      unfold kS_b at h3
      simp only [Bool.or_eq_false_iff, Bool.and_eq_false_iff, beq_eq_false_iff_ne] at h3
      by_cases e5 : c = 5
      · rw [m152]
        show (ro_sI _ 5 6 _).2.1 c j = _
        rw [ro_rd_s, if_neg (by omega)]
        show (ro_row (ro_cp4 (kg L M).2.1 7 8 13 14 0 p) 11 _) c j = _
        unfold ro_row ro_cp4
        rw [if_neg (by omega), if_neg (by omega), if_neg (by omega)]
      · exact xwI_152 (by omega) (by omega) (by omega) (by omega))
    (fun c j h1 h2 h3 => xwJ_152)
  refine ro_cwp_up (Nat.le_refl _) ?_ h
  rintro r M2 ⟨g1, g2, g3⟩
  refine ⟨by rw [g1, f152], kv_fin hk (pi_27 hI) g2 rfl (fun k => rfl) (fun c j hc => ?_), g2, fun i hi => ⟨?_, ?_⟩, fun j hj => ?_, ?_⟩
  · rw [(g3 c hc).1]
    exact (xwI_280 (by omega) (by omega) (by omega) (by omega)).symm
  · rw [(g3 _ (by decide)).1, m152]
    show ro_cp4 (kg L M).2.1 7 8 13 14 0 p 7 i = _
    rw [cp4_1 (by decide), if_pos hi, kg_c (by decide)]
  · rw [(g3 _ (by decide)).1, m152]
    show ro_cp4 (kg L M).2.1 7 8 13 14 0 p 8 i = _
    rw [cp4_2 (by decide), if_pos hi, kg_c (by decide)]
  · rw [(g3 _ (by decide)).1, m152]; exact r11 j hj
  · rw [(g3 _ (by decide)).1, m152]
    show (kg L M).2.1 5 12 = _
    exact kg_c (by decide)
/-- a row's sum -/
def su (f : Nat → Int32) : Nat → Int32
  | 0 => 0
  | n + 1 => su f n + f n
theorem su_191 {A : ro_Mm} {p : Nat} (hp : p ≤ 6) (e1 : A.2.1 5 4 = nI p) {w : Int32} {g : Nat → Int32} (hg : ∀ k, k < p → xf_30 A (nI k) w = g k) : ∀ (d k n : Nat), k + d = p → d < n → (xg_191_4 n A (nI k) (su g k) w).2 = su g p := by
  intro d
  induction d with
  | zero =>
    intro k n hk hn
    cases n with
    | zero => omega
    | succ n =>
      rw [xg_191_4, e1, if_pos (nI_le (by omega) (by omega)), show k = p by omega]
  | succ d ih =>
    intro k n hk hn
    cases n with
    | zero => omega
    | succ n =>
      rw [xg_191_4, e1, if_neg (ro_npk (by omega) hp), hg k (by omega), ← nI_succ]
      exact ih (k + 1) n (by omega) (by omega)
theorem ca_cnt1 (hk : kv L M) {p : Nat} (hp : p ≤ 6) (e1 : M.2.1 5 4 = nI p) : ro_cwp X 4 190 [.ref 4, .int 1] M (fun r M2 => r = some (.int (su (M.2.1 7) p)) ∧ kq M M2) := by
  have h := kc_r (A := some (.int (xf_190 (kg L M) 1))) hk rfl rfl (xs_190 (X := X) (v1 := 1) (kg_lay hk.1) (pc_39 (kg_inv hk).1)) (fun _ _ _ _ => rfl) (fun _ _ _ _ => rfl)
  have e : xf_190 (kg L M) 1 = su (M.2.1 7) p := by
    unfold xf_190 xf_191
    rw [if_neg (by decide), if_pos rfl]
    have g := su_191 (A := kg L M) hp ((kg_c (by decide)).trans e1) (w := 0) (g := M.2.1 7) (fun k hk => (x30_0 (by omega)).trans (kg_c (by decide))) p 0 lp_N (by omega) (lp_hug (by omega))
    exact g
  rw [e] at h
  exact h
theorem ca_cnt2 (hk : kv L M) {p : Nat} (hp : p ≤ 6) (e1 : M.2.1 5 4 = nI p) : ro_cwp X 4 190 [.ref 4, .int 2] M (fun r M2 => r = some (.int (su (M.2.1 8) p)) ∧ kq M M2) := by
  have h := kc_r (A := some (.int (xf_190 (kg L M) 2))) hk rfl rfl (xs_190 (X := X) (v1 := 2) (kg_lay hk.1) (pc_39 (kg_inv hk).1)) (fun _ _ _ _ => rfl) (fun _ _ _ _ => rfl)
  have e : xf_190 (kg L M) 2 = su (M.2.1 8) p := by
    unfold xf_190 xf_191
    rw [if_neg (by decide), if_neg (by decide), if_pos rfl]
    have g := su_191 (A := kg L M) hp ((kg_c (by decide)).trans e1) (w := 1) (g := M.2.1 8) (fun k hk => (x30_1 (by omega)).trans (kg_c (by decide))) p 0 lp_N (by omega) (lp_hug (by omega))
    exact g
  rw [e] at h
  exact h
end CALLS3
