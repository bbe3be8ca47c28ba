/-! the odds, as both work them out; pair odds -/
section ODDS4
variable {X : ro_Sx}
theorem ro_lv_lr {c j : Nat} (h : ro_lr c j = true) : ro_lv c j = true := by unfold ro_lv; rw [h]; rfl
theorem ro_lv_174 {k : Nat} (h : k < 130) : ro_lv 174 k = true ∧ ro_lv 175 k = true := ⟨ro_lv_lr (decide_eq_true h), ro_lv_lr (decide_eq_true h)⟩
theorem ro_lv_177 {k : Nat} (h : k < 61) : ro_lv 177 k = true ∧ ro_lv 178 k = true := ⟨ro_lv_lr (decide_eq_true h), ro_lv_lr (decide_eq_true h)⟩
def od_h (v : Int32) : Int32 := if v < 0 then 0 else if (12 : Int32) < v then 12 else v
theorem od_h_c {M : ro_Mm} {v : Int32} : xf_59 M v = od_h v := by unfold xf_59 ro_max ro_min od_h; grind
theorem od_h_r {v : Int32} : (if (0 : Int32) ≤ v then (if v ≤ (12 : Int32) then v else (12 : Int32)) else (0 : Int32)) = od_h v := by unfold od_h; grind
theorem od_h_b {v : Int32} : 0 ≤ od_h v ∧ od_h v ≤ 12 := by unfold od_h; grind
def od_f (M : ro_Mm) (i j : Nat) (w u : Int32) : Nat → Int32 := fun k => if k = 0 then M.2.1 9 j else if k = 1 then M.2.1 9 i else if k = 2 then w else if k = 3 then u else if k = 4 then M.2.1 5 6 else M.2.1 5 5
def od_D (A : ro_Mm) (c : Nat) (a0 a1 a2 a3 a4 a5 : Int32) : ro_Mm := ro_sI (ro_sI (ro_sI (ro_sI (ro_sI (ro_sI A c 0 a0) c 1 a1) c 2 a2) c 3 a3) c 4 a4) c 5 a5
theorem od_D_o {A : ro_Mm} {c : Nat} {a0 a1 a2 a3 a4 a5 : Int32} {d j : Nat} (h : d ≠ c) : (od_D A c a0 a1 a2 a3 a4 a5).2.1 d j = A.2.1 d j := by
  unfold od_D
  rw [ro_sI_ne h, ro_sI_ne h, ro_sI_ne h, ro_sI_ne h, ro_sI_ne h, ro_sI_ne h]
theorem od_D_i {A M : ro_Mm} {c i j : Nat} {w u : Int32} {k : Nat} (hk : k < 6) : (od_D A c (M.2.1 9 j) (M.2.1 9 i) w u (M.2.1 5 6) (M.2.1 5 5)).2.1 c k = od_f M i j w u k := by
  unfold od_D od_f
  simp only [ro_rd_s]
  have e : k = 0 ∨ k = 1 ∨ k = 2 ∨ k = 3 ∨ k = 4 ∨ k = 5 := by omega
  rcases e with e | e | e | e | e | e <;> subst e <;> simp (config := {decide := true}) only [true_and, if_true, if_false]
/-- only what the law works with is another -/
def od_fc (A B : ro_Mm) : Prop := ∀ c j, c ≠ 20 → c ≠ 21 → ¬ (c = 16 ∧ j = 9) → B.2.1 c j = A.2.1 c j
def od_fr (A B : ro_Mm) : Prop := ∀ c j, c ≠ 179 → c ≠ 180 → B.2.1 c j = A.2.1 c j
theorem x30_2 {A : ro_Mm} {j : Nat} (h : j < 6) : xf_30 A (nI j) 2 = A.2.1 9 j := by
  obtain ⟨q1, q2, q3, q4⟩ := ro_n6 h
  unfold xf_30
  rw [if_neg (by decide), if_neg (by decide), if_pos rfl, if_neg q1, if_neg q2, q3]
theorem x30_4 {A : ro_Mm} {v : Int32} : xf_30 A v 4 = A.2.1 5 5 := by
  unfold xf_30
  rw [if_neg (by decide), if_neg (by decide), if_neg (by decide), if_neg (by decide), if_pos rfl]
theorem x30_5 {A : ro_Mm} {v : Int32} : xf_30 A v 5 = A.2.1 5 6 := by
  unfold xf_30
  rw [if_neg (by decide), if_neg (by decide), if_neg (by decide), if_neg (by decide), if_neg (by decide), if_pos rfl]
theorem x30_6 {A : ro_Mm} {v : Int32} : xf_30 A v 6 = A.2.1 5 7 := by
  unfold xf_30
  rw [if_neg (by decide), if_neg (by decide), if_neg (by decide), if_neg (by decide), if_neg (by decide), if_neg (by decide), if_pos rfl]
theorem x30_0 {A : ro_Mm} {j : Nat} (h : j < 6) : xf_30 A (nI j) 0 = A.2.1 7 j := by
  unfold xf_30
  rw [if_pos rfl]; exact x31 h
theorem x30_1 {A : ro_Mm} {j : Nat} (h : j < 6) : xf_30 A (nI j) 1 = A.2.1 8 j := by
  unfold xf_30
  rw [if_neg (by decide), if_pos rfl]; exact x32 h
theorem od_58 {A : ro_Mm} {c i j : Nat} (hc : ro_ip c) (hi : i < 6) (hj : j < 6) :
    xf_58 A c (nI i) (nI j) = (if (0 : Int32) < A.2.1 16 8 then od_h (xf_60 (od_D A 21 (A.2.1 9 j) (A.2.1 9 i) (A.2.1 (c + 1) j) (A.2.1 (c + 2) j) (A.2.1 5 6) (A.2.1 5 5))) else od_h ((A.2.1 9 j + A.2.1 5 6 / 3) - A.2.1 9 i / 4)) ∧
    xm_58 A c (nI i) (nI j) = (if (0 : Int32) < A.2.1 16 8 then xm_60 (od_D A 21 (A.2.1 9 j) (A.2.1 9 i) (A.2.1 (c + 1) j) (A.2.1 (c + 2) j) (A.2.1 5 6) (A.2.1 5 5)) else A) ∧
    (((0 : Int32) < A.2.1 16 8 → xp_60 (od_D A 21 (A.2.1 9 j) (A.2.1 9 i) (A.2.1 (c + 1) j) (A.2.1 (c + 2) j) (A.2.1 5 6) (A.2.1 5 5))) → xp_58 A c (nI i) (nI j)) := by
  have n1 : c + 1 ≠ 21 := by unfold ro_ip at hc; omega
  have n2 : c + 2 ≠ 21 := by unfold ro_ip at hc; omega
  have e2 : ∀ u v : Int32, xf_31 (ro_sI (ro_sI A 21 0 u) 21 1 v) c (nI j) = A.2.1 (c + 1) j := fun u v => by
    rw [x31 hj, ro_sI_ne n1, ro_sI_ne n1]
  have e3 : ∀ u v w : Int32, xf_32 (ro_sI (ro_sI (ro_sI A 21 0 u) 21 1 v) 21 2 w) c (nI j) = A.2.1 (c + 2) j := fun u v w => by
    rw [x32 hj, ro_sI_ne n2, ro_sI_ne n2, ro_sI_ne n2]
  have e4 : ∀ u v w x y : Int32, xf_30 (ro_sI (ro_sI (ro_sI (ro_sI (ro_sI A 21 0 u) 21 1 v) 21 2 w) 21 3 x) 21 4 y) 0 4 = A.2.1 5 5 := fun u v w x y => by
    rw [x30_4, ro_sI_ne (by decide), ro_sI_ne (by decide), ro_sI_ne (by decide), ro_sI_ne (by decide), ro_sI_ne (by decide)]
  refine ⟨?_, ?_, ?_⟩
  · unfold xf_58
    rw [e2, e3, e4, x30_2 hi, x30_2 hj, x30_5, od_h_c, od_h_c]
    rfl
  · unfold xm_58
    rw [e2, e3, e4, x30_2 hi, x30_2 hj, x30_5]
    rfl
  · intro hp
    unfold xp_58
    rw [e2, e3, e4, x30_2 hi, x30_2 hj, x30_5]
    exact ⟨fun y => ⟨hp y, trivial⟩, fun _ => trivial⟩
/-- the odds: by i to j, who has w whole ones, u notched ones -/
def od_is (M : ro_Mm) (od : Nat → Nat → Int32 → Int32 → Int32) : Prop :=
  (∀ i j w u, 0 ≤ od i j w u ∧ od i j w u ≤ 12) ∧
  (∀ A c i j, ro_eqv M A → ro_ip c → i < 6 → j < 6 → xf_58 A c (nI i) (nI j) = od i j (A.2.1 (c + 1) j) (A.2.1 (c + 2) j) ∧ xp_58 A c (nI i) (nI j) ∧ ro_eqv M (xm_58 A c (nI i) (nI j)) ∧ od_fc A (xm_58 A c (nI i) (nI j)) ∧ (xm_58 A c (nI i) (nI j)).2.2.1 = A.2.2.1) ∧
  (∀ B i j, ro_eqv M B → i < 6 → j < 6 → xf_229 B (nI i) (nI j) = od i j (B.2.1 181 j) (B.2.1 182 j) ∧ xp_229 B (nI i) (nI j) ∧ ro_eqv M (xm_229 B (nI i) (nI j)) ∧ od_fr B (xm_229 B (nI i) (nI j)) ∧ (xm_229 B (nI i) (nI j)).2.2.1 = B.2.2.1)
theorem od_ex {M : ro_Mm} (h : ro_Inv M) : ∃ od, od_is M od := by
  obtain ⟨L, g1, g2, g3, g4, g5, g6, g7, g8, g9⟩ := h.2.1.2.2.2.2.2.1
  have hb := h.2.1.2.1
  have ha := h.2.1.1
  refine ⟨fun i j w u => od_h (if L = [] then (M.2.1 9 j + M.2.1 5 6 / 3) - M.2.1 9 i / 4 else lw_val (od_f M i j w u) L), fun i j w u => od_h_b, ?_, ?_⟩
  · intro A c i j hA hc hi hj
    obtain ⟨d1, d2, d3⟩ := od_58 (A := A) hc hi hj
    have r8 : A.2.1 16 8 = nI (lw_codes L).length := (hA.2.1 16 8 rfl).trans g3
    have r9 : ∀ k, A.2.1 9 k = M.2.1 9 k := fun k => hA.2.1 9 k rfl
    have r5 : ∀ k, A.2.1 5 k = M.2.1 5 k := fun k => hA.2.1 5 k rfl
    rw [r9, r9, r5, r5] at d1 d2 d3
    by_cases e : L = []
    · have z : ¬ (0 : Int32) < A.2.1 16 8 := by rw [r8, e]; decide
      rw [if_neg z] at d1 d2
      rw [d1, d2]
      refine ⟨?_, d3 (fun y => absurd y z), hA, fun _ _ _ _ _ => rfl, rfl⟩
      simp only [if_pos e]
    · have z : (0 : Int32) < A.2.1 16 8 := by
        rw [r8]
        refine nI_lt (a := 0) ?_ (by omega)
        cases L with
        | nil => exact absurd rfl e
        | cons q L => rw [lw_codes_c, List.length_append, List.length_cons]; omega
      rw [if_pos z] at d1 d2
      have C0 : lw_C (od_f M i j (A.2.1 (c + 1) j) (A.2.1 (c + 2) j)) (ro_sI (od_D A 21 (M.2.1 9 j) (M.2.1 9 i) (A.2.1 (c + 1) j) (A.2.1 (c + 2) j) (M.2.1 5 6) (M.2.1 5 5)) 16 9 0) [] := by
        refine ⟨?_, trivial, fun k hk => ?_⟩
        · rw [ro_rd_s, if_pos ⟨rfl, rfl⟩]; rfl
        · rw [ro_sI_ne (by decide)]; exact od_D_i hk
      obtain ⟨l1, l2, l3⟩ := lw_cl L (i := 0) (n := lp_N) C0 g1 (by omega)
        (by rw [ro_rd_s, if_neg (by omega), od_D_o (by decide), r8, Nat.zero_add])
        (fun k hk => by rw [ro_sI_ne (by decide), od_D_o (by decide), Nat.zero_add, hA.2.1 19 k rfl]; exact g4 k hk) (lp_hug (by omega))
      have F : xf_60 (od_D A 21 (M.2.1 9 j) (M.2.1 9 i) (A.2.1 (c + 1) j) (A.2.1 (c + 2) j) (M.2.1 5 6) (M.2.1 5 5)) = lw_val (od_f M i j (A.2.1 (c + 1) j) (A.2.1 (c + 2) j)) L := l2
      have P := d3 (fun _ => ⟨l1, trivial⟩)
      have FR : od_fc A (xm_58 A c (nI i) (nI j)) := by
        rw [d2]
        intro a b n1 n2 n3
        refine (l3 a b n1 n3).trans ?_
        rw [ro_rd_s, if_neg n3, od_D_o n2]
      have J : (xm_58 A c (nI i) (nI j)).2.2.1 = A.2.2.1 := funext fun a => funext fun b => xwJ_58
      refine ⟨?_, P, ⟨xl_58 hA.1 hc P, fun a b hab => ?_, fun a b hab => ?_⟩, FR, J⟩
      · rw [d1, F]; simp only [if_neg e]
      · refine (FR a b (ro_lv_ne hab rfl) (ro_lv_ne hab rfl) ?_).trans (hA.2.1 a b hab)
        rintro ⟨x, y⟩
        rw [x, y] at hab
        exact Bool.noConfusion hab
      · rw [J]; exact hA.2.2 a b hab
  · intro B i j hB hi hj
    obtain ⟨qi1, qi2, qi3, qi4⟩ := ro_n6 hi
    obtain ⟨qj1, qj2, qj3, qj4⟩ := ro_n6 hj
    have r26 : B.2.1 163 26 = if L = [] then 0 else 1 := (hB.2.1 163 26 rfl).trans g9
    have r166 : ∀ k, k < 6 → B.2.1 166 k = M.2.1 9 k := fun k hk => (hB.2.1 166 k rfl).trans (hb k hk).2.2.1.1
    have r168 : B.2.1 168 1 = M.2.1 5 6 := (hB.2.1 168 1 rfl).trans ha.2.2.2.2.2.2.1
    have r1680 : B.2.1 168 0 = M.2.1 5 5 := (hB.2.1 168 0 rfl).trans ha.2.2.2.1
    have fm : ∀ P : ro_Mm, ro_lay P → od_fr B P → P.2.2.1 = B.2.2.1 → ro_eqv M P := fun P hP h1 h2 => ⟨hP, fun a b hab => (h1 a b (ro_lv_ne hab rfl) (ro_lv_ne hab rfl)).trans (hB.2.1 a b hab), fun a b hab => by rw [h2]; exact hB.2.2 a b hab⟩
    by_cases e : L = []
    · have z : B.2.1 163 26 = 0 := by rw [r26, if_pos e]
      have pe : xf_229 B (nI i) (nI j) = od_h ((M.2.1 9 j + M.2.1 5 6 / 3) - M.2.1 9 i / 4) := by
        unfold xf_229
        rw [if_pos z, qi3, qj3, r166 i hi, r166 j hj, r168, od_h_r]
      have pm : xm_229 B (nI i) (nI j) = B := by unfold xm_229; rw [if_pos z]
      rw [pe, pm]
      refine ⟨by simp only [if_pos e], ?_, hB, fun _ _ _ _ => rfl, rfl⟩
      unfold xp_229
      exact ⟨qj4, qi4, fun _ => trivial, fun y => absurd z y⟩
    · have z : ¬ B.2.1 163 26 = 0 := by rw [r26, if_neg e]; decide
      have R0 : lw_rows (od_f M i j (B.2.1 181 j) (B.2.1 182 j)) L (od_D B 179 (M.2.1 9 j) (M.2.1 9 i) (B.2.1 181 j) (B.2.1 182 j) (M.2.1 5 6) (M.2.1 5 5)) := by
        have hl := lw_len L
        refine ⟨fun k hk => od_D_i hk, fun k hk => ?_, ?_, fun l hl => ?_⟩
        · rw [od_D_o (by decide), od_D_o (by decide), hB.2.1 174 k (ro_lv_174 (by omega)).1, hB.2.1 175 k (ro_lv_174 (by omega)).2]; exact g5 k hk
        · rw [od_D_o (by decide), hB.2.1 176 0 rfl]; exact g7
        · rw [od_D_o (by decide), od_D_o (by decide), hB.2.1 177 l (ro_lv_177 (by omega)).1, hB.2.1 178 l (ro_lv_177 (by omega)).2]; exact g8 l hl
      obtain ⟨l1, l2⟩ := lw_rl g1 g2 g6 L [] (n := lp_N) rfl R0 (lp_hug (by omega))
      have eD : ro_sI (ro_sI (ro_sI (ro_sI (ro_sI (ro_sI B 179 0 (B.2.1 166 j)) 179 1 (B.2.1 166 i)) 179 2 (B.2.1 181 j)) 179 3 (B.2.1 182 j)) 179 4 (B.2.1 168 1)) 179 5 (B.2.1 168 0) = od_D B 179 (M.2.1 9 j) (M.2.1 9 i) (B.2.1 181 j) (B.2.1 182 j) (M.2.1 5 6) (M.2.1 5 5) := by
        rw [r166 i hi, r166 j hj, r168, r1680]; rfl
      have F : xf_230 (od_D B 179 (M.2.1 9 j) (M.2.1 9 i) (B.2.1 181 j) (B.2.1 182 j) (M.2.1 5 6) (M.2.1 5 5)) 0 = lw_val (od_f M i j (B.2.1 181 j) (B.2.1 182 j)) L := l2
      have pe : xf_229 B (nI i) (nI j) = od_h (lw_val (od_f M i j (B.2.1 181 j) (B.2.1 182 j)) L) := by
        unfold xf_229
        rw [if_neg z, qi3, qj3, eD, F, od_h_r]
      have pm : xm_229 B (nI i) (nI j) = xm_230 (od_D B 179 (M.2.1 9 j) (M.2.1 9 i) (B.2.1 181 j) (B.2.1 182 j) (M.2.1 5 6) (M.2.1 5 5)) 0 := by
        unfold xm_229
        rw [if_neg z, qi3, qj3, eD]
      have P : xp_229 B (nI i) (nI j) := by
        unfold xp_229
        rw [qi3, qj3, eD]
        exact ⟨qj4, qi4, fun y => absurd y z, fun _ => ⟨qj4, qi4, qj4, qj4, ⟨l1, trivial⟩, trivial⟩⟩
      have FR : od_fr B (xm_229 B (nI i) (nI j)) := fun a b n1 n2 => xwI_229 n1 n2
      have J : (xm_229 B (nI i) (nI j)).2.2.1 = B.2.2.1 := funext fun a => funext fun b => xwJ_229
      refine ⟨?_, P, fm _ (xl_229 hB.1 P) FR J, FR, J⟩
      rw [pe]; simp only [if_neg e]
theorem all_6 {M : ro_Mm} (h : ro_Inv M) {v1 : Int32} : xp_55 M v1 ∧ xp_226 (xm_55 M v1) v1 ∧ xf_226 (xm_55 M v1) v1 = xf_55 M v1 ∧ ro_eqv M (xm_226 (xm_55 M v1) v1) := by
  obtain ⟨od, h1, h2, h3⟩ := od_ex h
  obtain ⟨p, hp, e1, e2⟩ := ro_ppl h
  by_cases q : xf_56 M v1 = true
  · obtain ⟨i, j, hi, hj, hij, ei, ej⟩ := ro_two_i hp e1 q
    obtain ⟨a1, a2, a3, a4, a5⟩ := h2 M 6 i j (ro_eqv_r h.1) (by unfold ro_ip; decide) (by omega) (by omega)
    have hm : xm_55 M v1 = xm_58 M 6 (nI i) (nI j) := by unfold xm_55; rw [if_pos q, ei, ej]
    have hi2 : ro_Inv (xm_58 M 6 (nI i) (nI j)) := ro_eqv_i a3 h
    have q2 : xf_227 (xm_58 M 6 (nI i) (nI j)) v1 = true := by
      rw [ro_two hi2]
      have : ∀ A : ro_Mm, A.2.1 5 4 = M.2.1 5 4 → xf_56 A v1 = xf_56 M v1 := fun A e => by unfold xf_56 xf_57 xf_29; rw [e]
      rw [this _ (a3.2.1 5 4 rfl)]; exact q
    have e2' : (xm_58 M 6 (nI i) (nI j)).2.1 163 1 = nI p := (a3.2.1 163 1 rfl).trans e2
    obtain ⟨m1, m2⟩ := x228 hp e2'
    have l1 := ml_228 hp e2' hj
    have B3 := ro_eqv_t a3 (eq_228 a3.1 hp e2')
    obtain ⟨b1, b2, b3, b4, b5⟩ := h3 _ i j B3 (by omega) (by omega)
    have bj := h.2.1.2.1 j (by omega)
    rw [hm]
    refine ⟨?_, ?_, ?_, ?_⟩
    · unfold xp_55
      rw [ei, ej]
      exact ⟨fun _ => ⟨a2, trivial⟩, fun y => absurd q y⟩
    · unfold xp_226
      rw [ei, ej]
      exact ⟨fun _ => ⟨m2, b2, trivial⟩, fun y => absurd q2 y⟩
    · unfold xf_226 xf_55
      rw [if_pos q2, if_pos q, ei, ej, b1, a1, l1.1, l1.2, a3.2.1 164 j rfl, a3.2.1 165 j rfl, bj.1.1, bj.2.1.1]
    · unfold xm_226
      rw [if_pos q2, ei, ej]
      exact b3
  · have hm : xm_55 M v1 = M := by unfold xm_55; rw [if_neg q]
    have q2 : ¬ xf_227 M v1 = true := by rw [ro_two h]; exact q
    rw [hm]
    refine ⟨⟨fun y => absurd y q, fun _ => trivial⟩, ⟨fun y => absurd y q2, fun _ => trivial⟩, ?_, ?_⟩
    · unfold xf_226 xf_55
      rw [if_neg q2, if_neg q]
    · unfold xm_226
      rw [if_neg q2]
      exact ro_eqv_r h.1
end ODDS4

