/-! the odds, the law told -/
/-- the law, as both keep it, told -/
def iv_fL (L : List (List Int32 × List Int32)) (I : Nat → Nat → Int32) : Prop := (∀ q, q ∈ L → lw_line q) ∧
  (lw_codes L).length ≤ 121 ∧ I 16 8 = nI (lw_codes L).length ∧ (∀ k, k < (lw_codes L).length → I 19 k = (lw_codes L).getD k 0) ∧
  (∀ k, k < (lw_steps L).length → I 174 k = lw_act ((lw_steps L).getD k 0) ∧ I 175 k = lw_with ((lw_steps L).getD k 0)) ∧
  L.length ≤ 61 ∧ I 176 0 = nI L.length ∧ (∀ l, l < L.length → I 177 l = nI ((lw_steps (L.take l)).length + (L.getD l ([], [])).1.length) ∧ I 178 l = nI (lw_steps (L.take (l + 1))).length) ∧
  I 163 26 = (if L = [] then 0 else 1)
/-- the odds by a law -/
def odv (M : ro_Mm) (L : List (List Int32 × List Int32)) (i j : Nat) (w u : Int32) : Int32 := od_h (if L = [] then (M.2.1 9 j + M.2.1 5 6 / 3) - M.2.1 9 i / 4 else lw_val (od_f M i j w u) L)
theorem od_exL {M : ro_Mm} (h : ro_Inv M) {L : List (List Int32 × List Int32)} (hf : iv_fL L M.2.1) : od_is M (odv M L) := by
  obtain ⟨g1, g2, g3, g4, g5, g6, g7, g8, g9⟩ := hf
  have hb := h.2.1.2.1
  have ha := h.2.1.1
  refine ⟨fun i j w u => od_h_b, ?_, ?_⟩
  · intro A c i j hA hc hi hj
    obtain ⟨d1, d2, d3⟩ := od_58 (A := A) hc hi hj
    have r8 : A.2.1 16 8 = nI (lw_codes L).length := (hA.2.1 16 8 rfl).trans g3
    have r9 : ∀ k, A.2.1 9 k = M.2.1 9 k := fun k => hA.2.1 9 k rfl
    have r5 : ∀ k, A.2.1 5 k = M.2.1 5 k := fun k => hA.2.1 5 k rfl
    rw [r9, r9, r5, r5] at d1 d2 d3
    by_cases e : L = []
    · have z : ¬ (0 : Int32) < A.2.1 16 8 := by rw [r8, e]; decide
      rw [if_neg z] at d1 d2
      rw [d1, d2]
      refine ⟨?_, d3 (fun y => absurd y z), hA, fun _ _ _ _ _ => rfl, rfl⟩
      unfold odv; simp only [if_pos e]
    · have z : (0 : Int32) < A.2.1 16 8 := by
        rw [r8]
        refine nI_lt (a := 0) ?_ (by omega)
        cases L with
        | nil => exact absurd rfl e
        | cons q L => rw [lw_codes_c, List.length_append, List.length_cons]; omega
      rw [if_pos z] at d1 d2
      have C0 : lw_C (od_f M i j (A.2.1 (c + 1) j) (A.2.1 (c + 2) j)) (ro_sI (od_D A 21 (M.2.1 9 j) (M.2.1 9 i) (A.2.1 (c + 1) j) (A.2.1 (c + 2) j) (M.2.1 5 6) (M.2.1 5 5)) 16 9 0) [] := by
        refine ⟨?_, trivial, fun k hk => ?_⟩
        · rw [ro_rd_s, if_pos ⟨rfl, rfl⟩]; rfl
        · rw [ro_sI_ne (by decide)]; exact od_D_i hk
      obtain ⟨l1, l2, l3⟩ := lw_cl L (i := 0) (n := lp_N) C0 g1 (by omega)
        (by rw [ro_rd_s, if_neg (by omega), od_D_o (by decide), r8, Nat.zero_add])
        (fun k hk => by rw [ro_sI_ne (by decide), od_D_o (by decide), Nat.zero_add, hA.2.1 19 k rfl]; exact g4 k hk) (lp_hug (by omega))
      have F : xf_60 (od_D A 21 (M.2.1 9 j) (M.2.1 9 i) (A.2.1 (c + 1) j) (A.2.1 (c + 2) j) (M.2.1 5 6) (M.2.1 5 5)) = lw_val (od_f M i j (A.2.1 (c + 1) j) (A.2.1 (c + 2) j)) L := l2
      have P := d3 (fun _ => ⟨l1, trivial⟩)
      have FR : od_fc A (xm_58 A c (nI i) (nI j)) := by
        rw [d2]
        intro a b n1 n2 n3
        refine (l3 a b n1 n3).trans ?_
        rw [ro_rd_s, if_neg n3, od_D_o n2]
      have J : (xm_58 A c (nI i) (nI j)).2.2.1 = A.2.2.1 := funext fun a => funext fun b => xwJ_58
      refine ⟨?_, P, ⟨xl_58 hA.1 hc P, fun a b hab => ?_, fun a b hab => ?_⟩, FR, J⟩
      · rw [d1, F]; unfold odv; simp only [if_neg e]
      · refine (FR a b (ro_lv_ne hab rfl) (ro_lv_ne hab rfl) ?_).trans (hA.2.1 a b hab)
        rintro ⟨x, y⟩
        rw [x, y] at hab
        exact Bool.noConfusion hab
      · rw [J]; exact hA.2.2 a b hab
  · intro B i j hB hi hj
    obtain ⟨qi1, qi2, qi3, qi4⟩ := ro_n6 hi
    obtain ⟨qj1, qj2, qj3, qj4⟩ := ro_n6 hj
    have r26 : B.2.1 163 26 = if L = [] then 0 else 1 := (hB.2.1 163 26 rfl).trans g9
    have r166 : ∀ k, k < 6 → B.2.1 166 k = M.2.1 9 k := fun k hk => (hB.2.1 166 k rfl).trans (hb k hk).2.2.1.1
    have r168 : B.2.1 168 1 = M.2.1 5 6 := (hB.2.1 168 1 rfl).trans ha.2.2.2.2.2.2.1
    have r1680 : B.2.1 168 0 = M.2.1 5 5 := (hB.2.1 168 0 rfl).trans ha.2.2.2.1
    have fm : ∀ P : ro_Mm, ro_lay P → od_fr B P → P.2.2.1 = B.2.2.1 → ro_eqv M P := fun P hP h1 h2 => ⟨hP, fun a b hab => (h1 a b (ro_lv_ne hab rfl) (ro_lv_ne hab rfl)).trans (hB.2.1 a b hab), fun a b hab => by rw [h2]; exact hB.2.2 a b hab⟩
    by_cases e : L = []
    · have z : B.2.1 163 26 = 0 := by rw [r26, if_pos e]
      have pe : xf_229 B (nI i) (nI j) = od_h ((M.2.1 9 j + M.2.1 5 6 / 3) - M.2.1 9 i / 4) := by
        unfold xf_229
        rw [if_pos z, qi3, qj3, r166 i hi, r166 j hj, r168, od_h_r]
      have pm : xm_229 B (nI i) (nI j) = B := by unfold xm_229; rw [if_pos z]
      rw [pe, pm]
      refine ⟨by unfold odv; simp only [if_pos e], ?_, hB, fun _ _ _ _ => rfl, rfl⟩
      unfold xp_229
      exact ⟨qj4, qi4, fun _ => trivial, fun y => absurd z y⟩
    · have z : ¬ B.2.1 163 26 = 0 := by rw [r26, if_neg e]; decide
      have R0 : lw_rows (od_f M i j (B.2.1 181 j) (B.2.1 182 j)) L (od_D B 179 (M.2.1 9 j) (M.2.1 9 i) (B.2.1 181 j) (B.2.1 182 j) (M.2.1 5 6) (M.2.1 5 5)) := by
        have hl := lw_len L
        refine ⟨fun k hk => od_D_i hk, fun k hk => ?_, ?_, fun l hl => ?_⟩
        · rw [od_D_o (by decide), od_D_o (by decide), hB.2.1 174 k (ro_lv_174 (by omega)).1, hB.2.1 175 k (ro_lv_174 (by omega)).2]; exact g5 k hk
        · rw [od_D_o (by decide), hB.2.1 176 0 rfl]; exact g7
        · rw [od_D_o (by decide), od_D_o (by decide), hB.2.1 177 l (ro_lv_177 (by omega)).1, hB.2.1 178 l (ro_lv_177 (by omega)).2]; exact g8 l hl
      obtain ⟨l1, l2⟩ := lw_rl g1 g2 g6 L [] (n := lp_N) rfl R0 (lp_hug (by omega))
      have eD : ro_sI (ro_sI (ro_sI (ro_sI (ro_sI (ro_sI B 179 0 (B.2.1 166 j)) 179 1 (B.2.1 166 i)) 179 2 (B.2.1 181 j)) 179 3 (B.2.1 182 j)) 179 4 (B.2.1 168 1)) 179 5 (B.2.1 168 0) = od_D B 179 (M.2.1 9 j) (M.2.1 9 i) (B.2.1 181 j) (B.2.1 182 j) (M.2.1 5 6) (M.2.1 5 5) := by
        rw [r166 i hi, r166 j hj, r168, r1680]; rfl
      have F : xf_230 (od_D B 179 (M.2.1 9 j) (M.2.1 9 i) (B.2.1 181 j) (B.2.1 182 j) (M.2.1 5 6) (M.2.1 5 5)) 0 = lw_val (od_f M i j (B.2.1 181 j) (B.2.1 182 j)) L := l2
      have pe : xf_229 B (nI i) (nI j) = od_h (lw_val (od_f M i j (B.2.1 181 j) (B.2.1 182 j)) L) := by
        unfold xf_229
        rw [if_neg z, qi3, qj3, eD, F, od_h_r]
      have pm : xm_229 B (nI i) (nI j) = xm_230 (od_D B 179 (M.2.1 9 j) (M.2.1 9 i) (B.2.1 181 j) (B.2.1 182 j) (M.2.1 5 6) (M.2.1 5 5)) 0 := by
        unfold xm_229
        rw [if_neg z, qi3, qj3, eD]
      have P : xp_229 B (nI i) (nI j) := by
        unfold xp_229
        rw [qi3, qj3, eD]
        exact ⟨qj4, qi4, fun y => absurd y z, fun _ => ⟨qj4, qi4, qj4, qj4, ⟨l1, trivial⟩, trivial⟩⟩
      have FR : od_fr B (xm_229 B (nI i) (nI j)) := fun a b n1 n2 => xwI_229 n1 n2
      have J : (xm_229 B (nI i) (nI j)).2.2.1 = B.2.2.1 := funext fun a => funext fun b => xwJ_229
      refine ⟨?_, P, fm _ (xl_229 hB.1 P) FR J, FR, J⟩
      rw [pe]; unfold odv; simp only [if_neg e]
theorem kg_f {L : List (List Int32 × List Int32)} {M : ro_Mm} (h : kv L M) : iv_fL L (kg L M).2.1 := by
  obtain ⟨hq, ha, hb, hd, he, hf, hg, hh, hs⟩ := h
  have low : ∀ c j, c < 163 → (kg L M).2.1 c j = M.2.1 c j := fun c j h => kg_lo h
  have up : ∀ c j, ¬ c < 163 → (kg L M).2.1 c j = kg_I L M.2.1 c j := fun c j h => kg_hi h
  obtain ⟨f1, f2, f3, f4, f5⟩ := hf
  refine ⟨f1, f2, ?_, fun k hk => ?_, fun k hk => ?_, f5, ?_, fun l hl => ?_, ?_⟩
  · rw [low 16 8 (by decide)]; exact f3
  · rw [low 19 k (by decide)]; exact f4 k hk
  · rw [up 174 k (by decide), up 175 k (by decide)]; exact ⟨rfl, rfl⟩
  · rw [up 176 0 (by decide)]; rfl
  · rw [up 177 l (by decide), up 178 l (by decide)]; exact ⟨rfl, rfl⟩
  · rw [up 163 26 (by decide)]; rfl
theorem odv_c {L : List (List Int32 × List Int32)} {M M2 : ro_Mm} (h9 : ∀ i, M2.2.1 9 i = M.2.1 9 i) (h5 : M2.2.1 5 5 = M.2.1 5 5) (h6 : M2.2.1 5 6 = M.2.1 5 6) : odv M2 L = odv M L := by
  funext i j w u
  unfold odv od_f
  rw [h9, h9, h5, h6]
theorem kg_od {L : List (List Int32 × List Int32)} {M : ro_Mm} (h : kv L M) : od_is (kg L M) (odv M L) := by
  have e : odv (kg L M) L = odv M L := odv_c (fun i => kg_lo (by decide)) (kg_lo (by decide)) (kg_lo (by decide))
  rw [← e]
  exact od_exL (kg_inv h).1 (kg_f h)
/-- what a call leaves as it was: but S -/
def kw (S : Nat → Nat → Bool) (M M2 : ro_Mm) : Prop := M2.1 = M.1 ∧ (∀ c j, c < 163 → ro_lv c j = true → S c j = false → M2.2.1 c j = M.2.1 c j) ∧ (∀ c j, c < 163 → ro_lj c = true → S c j = false → M2.2.2.1 c j = M.2.2.1 c j) ∧ (∀ e, e ∈ ro_rt → M2.2.2.2 e.1 e.2.1 = .ref e.2.2) ∧ ro_lev M2 ∧
  ∀ c, ¬ c < 163 → M2.2.1 c = M.2.1 c ∧ M2.2.2.1 c = M.2.2.1 c ∧ M2.2.2.2 c = M.2.2.2 c
theorem kw_q {S : Nat → Nat → Bool} {M M2 : ro_Mm} (h : kv_q M) (g : kw S M M2) : kv_q M2 := ⟨by rw [g.1]; exact h.1, g.2.2.2.1, g.2.2.2.2.1⟩
theorem kq_w {M M2 : ro_Mm} (h : kq M M2) : kw (fun _ _ => false) M M2 := ⟨h.1, fun c j a b _ => h.2.1 c j a b, fun c j a b _ => h.2.2.1 c j a b, h.2.2.2⟩
/-- a call of the class's, run on its cells -/
theorem kw_of {S : Nat → Nat → Bool} {L : List (List Int32 × List Int32)} {M G M2 : ro_Mm} (hI : ∀ c j, c < 163 → ro_lv c j = true → S c j = false → G.2.1 c j = (kg L M).2.1 c j) (hJ : ∀ c j, c < 163 → ro_lj c = true → S c j = false → G.2.2.1 c j = (kg L M).2.2.1 c j) (hT : ∀ e, e ∈ ro_rt → G.2.2.2 e.1 e.2.1 = .ref e.2.2) (hl : ro_lev G) (hR : sh_R 159 M G M2) : kw S M M2 := by
  have e : ∀ c, c < 163 → M2.2.1 c = G.2.1 c ∧ M2.2.2.1 c = G.2.2.1 c ∧ M2.2.2.2 c = G.2.2.2 c := hR.2.2.2.1
  refine ⟨hR.2.1, fun c j h1 h2 h3 => ?_, fun c j h1 h2 h3 => ?_, fun x hx => ?_, ?_, fun c hc => hR.2.2.2.2 c hc⟩
  · rw [(e c h1).1, hI c j h1 h2 h3]
    exact kg_lo h1
  · rw [(e c h1).2.1, hJ c j h1 h2 h3]
    exact if_pos h1
  · have hb : x.1 < 163 := (show ∀ x, x ∈ ro_rt → x.1 < 163 by decide +kernel) x hx
    rw [(e x.1 hb).2.2]
    exact hT x hx
  · unfold ro_lev
    rw [(e 62 (by decide)).2.2]
    exact hl
/-- a call that writes no reference -/
theorem kc_w {S : Nat → Nat → Bool} {L : List (List Int32 × List Int32)} {X : ro_Sx} {d y : Nat} {as : List Value} {M G : ro_Mm} {A : Option Value} (hk : kv L M) (hl : (ro_lim y).1 = 0) (hS : fr_S y = true) (h : ro_cwp X d y as (kg L M) (fun v M2 => v = A ∧ M2 = G)) (hI : ∀ c j, c < 163 → ro_lv c j = true → S c j = false → G.2.1 c j = (kg L M).2.1 c j) (hJ : ∀ c j, c < 163 → ro_lj c = true → S c j = false → G.2.2.1 c j = (kg L M).2.2.1 c j) :
    ro_cwp X d y as M (fun v M2 => v = A ∧ kw S M M2 ∧ ∀ c, c < 163 → M2.2.1 c = G.2.1 c ∧ M2.2.2.1 c = G.2.2.1 c) := by
  have h2 := fr_cwp X d y as (kg L M) _ hS h
  refine ro_cwp_up (Nat.le_refl _) ?_ (kc_call hk.1 hl h2)
  rintro v M2 ⟨G2, ⟨⟨e1, e2⟩, e3⟩, hR⟩
  rw [e2] at e3 hR
  refine ⟨e1, kw_of hI hJ (fun e he => ?_) ?_ hR, fun c hc => ⟨(hR.2.2.2.1 c hc).1, (hR.2.2.2.1 c hc).2.1⟩⟩
  · rw [e3]; exact hk.1.2.1 e he
  · exact ro_lev_c hk.1.2.2 (by rw [e3]; rfl)
/-- a call that only reads -/
theorem kc_r {L : List (List Int32 × List Int32)} {X : ro_Sx} {d y : Nat} {as : List Value} {M G : ro_Mm} {A : Option Value} (hk : kv L M) (hl : (ro_lim y).1 = 0) (hS : fr_S y = true) (h : ro_cwp X d y as (kg L M) (fun v M2 => v = A ∧ M2 = G)) (hI : ∀ c j, c < 163 → ro_lv c j = true → G.2.1 c j = (kg L M).2.1 c j) (hJ : ∀ c j, c < 163 → ro_lj c = true → G.2.2.1 c j = (kg L M).2.2.1 c j) :
    ro_cwp X d y as M (fun v M2 => v = A ∧ kq M M2) :=
  ro_cwp_up (Nat.le_refl _) (fun v M2 ⟨e1, e2, _⟩ => ⟨e1, e2.1, fun c j a b => e2.2.1 c j a b rfl, fun c j a b => e2.2.2.1 c j a b rfl, e2.2.2.2⟩) (kc_w (S := fun _ _ => false) hk hl hS h (fun c j a b _ => hI c j a b) (fun c j a b _ => hJ c j a b))
