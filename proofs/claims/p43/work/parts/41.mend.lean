/-! towards mend: the oldest change is forgotten; the same things may be mended (wip/whole/gen41.py) -/
section MEND
/-- the reference's four rows of changes, one down from place k on -/
def ro_sh4 (I : Nat → Nat → Int32) (k : Nat) : Nat → Nat → Int32 := fun c j => if (c = 169 ∨ c = 170 ∨ c = 171 ∨ c = 172) ∧ k ≤ j ∧ j < 39 then I c (j + 1) else I c j
theorem ro_sh4_step {I : Nat → Nat → Int32} {k : Nat} (hk : k < 39) : ro_sh4 (ro_up2 (ro_up2 (ro_up2 (ro_up2 I 169 k (I 169 (k + 1))) 170 k (I 170 (k + 1))) 171 k (I 171 (k + 1))) 172 k (I 172 (k + 1))) (k + 1) = ro_sh4 I k := by
  funext c j
  unfold ro_sh4 ro_up2
  grind
theorem cl_206 {u w x y : Int32} : ∀ (d k n : Nat) (M : ro_Mm), k + d = 39 → d < n →
    (xg_206_34 n M (nI (k + 1)) u w x y).2 = (M.1, ro_sh4 M.2.1 k, M.2.2.1, M.2.2.2) ∧ xq_206_34 n M (nI (k + 1)) u w x y := by
  intro d
  induction d with
  | zero =>
    intro k n M hk hn
    cases n with
    | zero => omega
    | succ n =>
      have e : k = 39 := by omega
      have q : (40 : Int32) ≤ nI (k + 1) := by rw [e]; decide
      have z : ro_sh4 M.2.1 k = M.2.1 := by
        funext c j
        unfold ro_sh4
        rw [if_neg (by omega)]
      rw [xg_206_34, xq_206_34, if_pos q, z]
      exact ⟨rfl, fun _ => trivial, fun y => absurd q y⟩
  | succ d ih =>
    intro k n M hk hn
    cases n with
    | zero => omega
    | succ n =>
      have q : ¬ (40 : Int32) ≤ nI (k + 1) := nI_ge (a := k + 1) (b := 40) (by omega) (by omega)
      have q3 : (nI (k + 1)).toNatClampNeg = k + 1 := nI_clamp (by omega)
      have q4 : (nI k).toNatClampNeg = k := nI_clamp (by omega)
      have v1 : vp_in (nI (k + 1)) 40 := ro_vn (by omega) (by omega)
      have v2 : vp_in (nI k) 40 := ro_vn (by omega) (by omega)
      rw [xg_206_34, xq_206_34, if_neg q, nI_pred, q3, q4, ← nI_succ]
      obtain ⟨i1, i2⟩ := ih (k + 1) n (ro_sI (ro_sI (ro_sI (ro_sI M 169 k (M.2.1 169 (k + 1))) 170 k (M.2.1 170 (k + 1))) 171 k (M.2.1 171 (k + 1))) 172 k (M.2.1 172 (k + 1))) (by omega) (by omega)
      rw [i1]
      refine ⟨?_, fun _ => trivial, fun _ => ⟨v1, v2, v1, v2, v1, v2, v1, v2, i2⟩⟩
      have e5 := ro_sh4_step (I := M.2.1) (k := k) (by omega)
      rw [← e5]
      rfl
theorem x206 {M : ro_Mm} {u w x y : Int32} : (xg_206_34 lp_N M 1 u w x y).2 = (M.1, ro_sh4 M.2.1 0, M.2.2.1, M.2.2.2) ∧ xq_206_34 lp_N M 1 u w x y :=
  cl_206 39 0 lp_N M (by omega) (lp_hug (by omega))
/-- what may be mended, and with what -/
theorem ro_w28 {M : ro_Mm} (h : ro_Inv M) {n w : Int32} : xf_203 M n w = xf_28 M n w := by
  have e := ro_one_b h (v := n)
  unfold xf_203 xf_28
  rw [e]
  by_cases z1 : 0 ≤ w ∧ w ≤ 3
  · have n1 : ¬ w < 0 := by grind
    have n2 : ¬ 3 < w := by grind
    rw [if_pos (ro_w195.mpr z1), if_neg n1, if_neg n2]
  · rw [if_neg (fun y => z1 (ro_w195.mp y))]
    by_cases z2 : 4 ≤ w ∧ w ≤ 6
    · have n1 : ¬ w < 0 := by grind
      have n2 : 3 < w := by grind
      have n3 : ¬ w < 4 := by grind
      have n4 : ¬ 6 < w := by grind
      rw [if_pos (ro_w195.mpr z2), if_neg n1, if_pos n2, if_neg n3, if_neg n4]
    · rw [if_neg (fun y => z2 (ro_w195.mp y))]
      by_cases n1 : w < 0
      · have n3 : w < 4 := by grind
        rw [if_pos n1, if_pos n3]
      · have n2 : 3 < w := by grind
        rw [if_neg n1, if_pos n2]
        by_cases n3 : w < 4
        · rw [if_pos n3]
        · have n4 : 6 < w := by grind
          rw [if_neg n3, if_pos n4]
theorem ro_w205 {M : ro_Mm} {w v : Int32} (hw : 0 ≤ w ∧ w ≤ 6) : (xf_205 M w v = xf_15 M w v) ∧ ((xf_15 M w v = true) = (0 ≤ v ∧ v ≤ ro_mst w)) := by
  rcases ro_seven hw with e | e | e | e | e | e | e <;> rw [e]
  · exact ⟨by rw [Bool.eq_iff_iff, ro_w15_0]; unfold xf_205; rw [if_neg (by decide), if_neg (by decide), if_neg (by decide), if_neg (by decide), ro_w195], ro_w15_0⟩
  · exact ⟨by rw [Bool.eq_iff_iff, ro_w15_1]; unfold xf_205; rw [if_neg (by decide), if_neg (by decide), if_neg (by decide), if_neg (by decide), ro_w195], ro_w15_1⟩
  · exact ⟨by rw [Bool.eq_iff_iff, ro_w15_2]; unfold xf_205; rw [if_pos rfl, ro_w195], ro_w15_2⟩
  · exact ⟨by rw [Bool.eq_iff_iff, ro_w15_3]; unfold xf_205; rw [if_neg (by decide), if_neg (by decide), if_neg (by decide), if_neg (by decide), ro_w195], ro_w15_3⟩
  · exact ⟨by rw [Bool.eq_iff_iff, ro_w15_4]; unfold xf_205; rw [if_neg (by decide), if_pos rfl, ro_w195], ro_w15_4⟩
  · exact ⟨by rw [Bool.eq_iff_iff, ro_w15_5]; unfold xf_205; rw [if_neg (by decide), if_neg (by decide), if_pos rfl, ro_w195], ro_w15_5⟩
  · exact ⟨by rw [Bool.eq_iff_iff, ro_w15_6]; unfold xf_205; rw [if_neg (by decide), if_neg (by decide), if_neg (by decide), if_pos rfl, ro_w195], ro_w15_6⟩
theorem x200_cong {A B : ro_Mm} {w n v : Int32} {c j : Nat} (hw : 0 ≤ w ∧ w ≤ 6) (h : A.2.1 c j = B.2.1 c j) : (xm_200 A w n v).2.1 c j = (xm_200 B w n v).2.1 c j := by
  rcases ro_seven hw with e | e | e | e | e | e | e <;> rw [e]
  · rw [x200_0, x200_0, ro_sI_u, ro_sI_u]; unfold ro_up2; rw [h]
  · rw [x200_1, x200_1, ro_sI_u, ro_sI_u]; unfold ro_up2; rw [h]
  · rw [x200_2, x200_2, ro_sI_u, ro_sI_u]; unfold ro_up2; rw [h]
  · rw [x200_3, x200_3, ro_sI_u, ro_sI_u]; unfold ro_up2; rw [h]
  · rw [x200_4, x200_4, ro_sI_u, ro_sI_u]; unfold ro_up2; rw [h]
  · rw [x200_5, x200_5, ro_sI_u, ro_sI_u]; unfold ro_up2; rw [h]
  · rw [x200_6, x200_6, ro_sI_u, ro_sI_u]; unfold ro_up2; rw [h]
/-- the rows of changes -/
def ro_chg (c : Nat) : Bool := match c with
  | 55 | 56 | 57 | 58 | 169 | 170 | 171 | 172 => true
  | _ => false
theorem ro_chg_i {c : Nat} (h : ro_chg c = true) : c = 55 ∨ c = 56 ∨ c = 57 ∨ c = 58 ∨ c = 169 ∨ c = 170 ∨ c = 171 ∨ c = 172 := by
  unfold ro_chg at h
  split at h <;> first | omega | exact absurd h (by decide)
/-- what a mending leaves, whatever the rows of changes hold now -/
theorem iv_mend {M : ro_Mm} (h : ro_Inv M) {n w v d : Int32} (hn : 0 ≤ n ∧ n < 6) (hw : 0 ≤ w ∧ w ≤ 6) (hv : 0 ≤ v ∧ v ≤ ro_mst w) (hd : 0 ≤ d ∧ d ≤ 40) {Z : ro_Mm}
    (hZ : ∀ c j, ro_chg c = false → Z.2.1 c j = (ro_sI (ro_sI (ro_sI (ro_sI (xm_33 M n w v) 54 4 d) 54 5 0) 163 7 d) 163 8 0).2.1 c j)
    (hg : ∀ i, i < 40 → (Z.2.1 170 i = Z.2.1 55 i ∧ 0 ≤ Z.2.1 55 i ∧ Z.2.1 55 i < 6) ∧ (Z.2.1 169 i = Z.2.1 56 i ∧ 0 ≤ Z.2.1 56 i ∧ Z.2.1 56 i ≤ 6) ∧ (Z.2.1 171 i = Z.2.1 57 i ∧ 0 ≤ Z.2.1 57 i ∧ Z.2.1 57 i ≤ ro_mst (Z.2.1 56 i)) ∧ (Z.2.1 172 i = Z.2.1 58 i ∧ 0 ≤ Z.2.1 58 i ∧ Z.2.1 58 i ≤ ro_mst (Z.2.1 56 i))) :
    iv_r (xm_200 Z w n v).2.1 ∧ iv_s (xm_200 Z w n v).2.1 M.2.2.1 := by
  obtain ⟨⟨r1, r2⟩, _⟩ := iv_tell h hn hw hv (d := d) (e := 0) (by grind)
  have hF : ∀ c j, ro_chg c = false → (xm_200 Z w n v).2.1 c j = (xm_200 (ro_sI (ro_sI (ro_sI (ro_sI (xm_33 M n w v) 54 4 d) 54 5 0) 163 7 d) 163 8 0) w n v).2.1 c j := fun c j e => x200_cong hw (hZ c j e)
  have hH : ∀ c j, ro_lr c j = true → (fun c j => if ro_chg c = true then (xm_200 (ro_sI (ro_sI (ro_sI (ro_sI (xm_33 M n w v) 54 4 d) 54 5 0) 163 7 d) 163 8 0) w n v).2.1 c j else (xm_200 Z w n v).2.1 c j) c j = (xm_200 (ro_sI (ro_sI (ro_sI (ro_sI (xm_33 M n w v) 54 4 d) 54 5 0) 163 7 d) 163 8 0) w n v).2.1 c j := by
    intro c j _
    show (if ro_chg c = true then _ else _) = _
    by_cases e : ro_chg c = true
    · rw [if_pos e]
    · rw [if_neg e]
      exact hF c j (Bool.eq_false_iff.mpr e)
  obtain ⟨a, b, c, d1, e, f, g, i⟩ := iv_r_c hH r1
  have fr : ∀ c j, c = 55 ∨ c = 56 ∨ c = 57 ∨ c = 58 ∨ c = 169 ∨ c = 170 ∨ c = 171 ∨ c = 172 → (xm_200 Z w n v).2.1 c j = Z.2.1 c j := by
    intro c j hc
    by_cases e9 : c = 169
    · rw [e9]; exact xwI_200 (by decide) (by decide) (by decide) (by decide) (by decide)
    · exact xwI_200 (by omega) (by omega) (by omega) (by omega) (by omega)
  refine ⟨⟨a, b, c, d1, e, f, ⟨g.1, fun k hk => ?_⟩, i⟩, iv_s_c (fun c j e => hF c j ?_) (fun _ _ _ => rfl) r2⟩
  · rw [fr 170 k (by omega), fr 55 k (by omega), fr 169 k (by omega), fr 56 k (by omega), fr 171 k (by omega), fr 57 k (by omega), fr 172 k (by omega), fr 58 k (by omega)]
    exact hg k hk
  · cases hc : ro_chg c with
    | false => rfl
    | true =>
      rcases ro_chg_i hc with q | q | q | q | q | q | q | q <;> rw [q] at e <;> exact absurd e (by unfold ro_ls; simp)
/-- what may be mended: its place, what stands there -/
theorem me_in {M : ro_Mm} (h : ro_Inv M) {n w : Int32} (hq : xf_28 M n w = true) : (0 ≤ n ∧ n < 6) ∧ (0 ≤ w ∧ w ≤ 6) := by
  obtain ⟨ha1, ha2, ha3, ha4⟩ := h.2.1.1
  rw [← ro_w28 h] at hq
  unfold xf_203 at hq
  rw [ro_one_b h] at hq
  by_cases z1 : 0 ≤ w ∧ w ≤ 3
  · rw [if_pos (ro_w195.mpr z1), ro_w29 ha3] at hq
    exact ⟨⟨hq.1, by grind⟩, by grind⟩
  · rw [if_neg (fun y => z1 (ro_w195.mp y))] at hq
    by_cases z2 : 4 ≤ w ∧ w ≤ 6
    · rw [if_pos (ro_w195.mpr z2)] at hq
      by_cases z3 : n = 0
      · rw [z3]
        exact ⟨by decide, by grind⟩
      · rw [if_neg z3] at hq
        exact absurd hq (by decide)
    · rw [if_neg (fun y => z2 (ro_w195.mp y))] at hq
      exact absurd hq (by decide)
theorem me_was {M : ro_Mm} (h : ro_Inv M) {n w : Int32} (hn : 0 ≤ n ∧ n < 6) (hw : 0 ≤ w ∧ w ≤ 6) : xf_207 M w n = xf_30 M n w ∧ xp_207 M w n ∧ 0 ≤ xf_30 M n w ∧ xf_30 M n w ≤ ro_mst w := by
  obtain ⟨ha1, ha2, ha3, ha4, ha5, ha6, ha7, ha8, ha9, ha10, ha11, ha12⟩ := h.2.1.1
  have hn6 := ro_clt (n := 6) hn.1 hn.2 (by decide)
  have hv := ro_vin (n := 6) hn.1 hn.2 (by decide)
  obtain ⟨b1, b2, b3, b4⟩ := h.2.1.2.1 _ hn6
  have n0 : ¬ n < 0 := by grind
  have n6 : ¬ 6 ≤ n := by grind
  have hp : xp_207 M w n := by
    refine ⟨fun _ => ⟨hv, trivial⟩, fun _ => ⟨fun _ => ⟨hv, trivial⟩, fun _ => ⟨fun _ => ⟨hv, trivial⟩, fun _ => ⟨fun _ => ⟨hv, trivial⟩, fun _ => ⟨?_, trivial⟩⟩⟩⟩⟩
    exact ro_vin (n := 3) (by grind) (show w - 4 < 3 by grind) (by decide)
  refine ⟨?_, hp, ?_⟩
  · rcases ro_seven hw with e | e | e | e | e | e | e <;> rw [e] <;> unfold xf_207 xf_30 xf_31 xf_32
    · rw [if_pos rfl, if_pos rfl, if_neg n0, if_neg n6]; exact b1.1
    · rw [if_neg (by decide), if_pos rfl, if_neg (by decide), if_pos rfl, if_neg n0, if_neg n6]; exact b2.1
    · rw [if_neg (by decide), if_neg (by decide), if_pos rfl, if_neg (by decide), if_neg (by decide), if_pos rfl, if_neg n0, if_neg n6]; exact b3.1
    · rw [if_neg (by decide), if_neg (by decide), if_neg (by decide), if_pos rfl, if_neg (by decide), if_neg (by decide), if_neg (by decide), if_pos rfl, if_neg n0, if_neg n6]; exact b4.1
    · exact ha4
    · exact ha7
    · exact ha10
  · rcases ro_seven hw with e | e | e | e | e | e | e <;> rw [e] <;> unfold xf_30 xf_31 xf_32 ro_mst
    · rw [if_pos rfl, if_neg n0, if_neg n6]; exact b1.2
    · rw [if_neg (by decide), if_pos rfl, if_neg n0, if_neg n6]; exact b2.2
    · rw [if_neg (by decide), if_neg (by decide), if_pos rfl, if_neg n0, if_neg n6]; exact b3.2
    · rw [if_neg (by decide), if_neg (by decide), if_neg (by decide), if_pos rfl, if_neg n0, if_neg n6]; exact b4.2
    · exact ⟨ha5, ha6⟩
    · exact ⟨ha8, ha9⟩
    · exact ⟨ha11, ha12⟩
theorem x207_cong {A B : ro_Mm} {w n : Int32} (h : ∀ c j, c = 164 ∨ c = 165 ∨ c = 166 ∨ c = 167 ∨ c = 168 → A.2.1 c j = B.2.1 c j) : xf_207 A w n = xf_207 B w n := by
  unfold xf_207
  rw [h 164 _ (by omega), h 165 _ (by omega), h 166 _ (by omega), h 167 _ (by omega), h 168 _ (by omega)]
theorem ro_chg_n {c : Nat} (h : ro_chg c = false) : c ≠ 55 ∧ c ≠ 56 ∧ c ≠ 57 ∧ c ≠ 58 ∧ c ≠ 169 ∧ c ≠ 170 ∧ c ≠ 171 ∧ c ≠ 172 := by
  refine ⟨?_, ?_, ?_, ?_, ?_, ?_, ?_, ?_⟩ <;> intro e <;> rw [e] at h <;> exact Bool.noConfusion h
/-- a change is put at place k, in both: B the class's memory before, C it behind, u what was -/
theorem me_put {M B C : ro_Mm} (h : ro_Inv M) {n w v u : Int32} {k : Nat} (hk : k < 40) (hn : 0 ≤ n ∧ n < 6) (hw : 0 ≤ w ∧ w ≤ 6) (hv : 0 ≤ v ∧ v ≤ ro_mst w) (hu : 0 ≤ u ∧ u ≤ ro_mst w)
    (eC : C = ro_sI (ro_sI (ro_sI (ro_sI (ro_sI (ro_sI B 55 k n) 56 k w) 57 k u) 58 k v) 54 4 (nI k + 1)) 54 5 0)
    (hB : ∀ c j, ro_chg c = false → ¬ (c = 54 ∧ (j = 4 ∨ j = 5)) → B.2.1 c j = (xm_33 M n w v).2.1 c j) {R : ro_Mm}
    (hR : ∀ c j, ro_chg c = false → ¬ (c = 163 ∧ (j = 7 ∨ j = 8)) → R.2.1 c j = C.2.1 c j) (hR2 : ∀ c j, c = 55 ∨ c = 56 ∨ c = 57 ∨ c = 58 → R.2.1 c j = C.2.1 c j)
    (hg : ∀ i, i < 40 → i ≠ k → (R.2.1 170 i = B.2.1 55 i ∧ 0 ≤ B.2.1 55 i ∧ B.2.1 55 i < 6) ∧ (R.2.1 169 i = B.2.1 56 i ∧ 0 ≤ B.2.1 56 i ∧ B.2.1 56 i ≤ 6) ∧ (R.2.1 171 i = B.2.1 57 i ∧ 0 ≤ B.2.1 57 i ∧ B.2.1 57 i ≤ ro_mst (B.2.1 56 i)) ∧ (R.2.1 172 i = B.2.1 58 i ∧ 0 ≤ B.2.1 58 i ∧ B.2.1 58 i ≤ ro_mst (B.2.1 56 i))) :
    iv_r (xm_200 (ro_sI (ro_sI (ro_sI (ro_sI (ro_sI (ro_sI R 163 8 0) 169 k w) 170 k n) 171 k u) 172 k v) 163 7 (nI k + 1)) w n v).2.1 ∧ iv_s (xm_200 (ro_sI (ro_sI (ro_sI (ro_sI (ro_sI (ro_sI R 163 8 0) 169 k w) 170 k n) 171 k u) 172 k v) 163 7 (nI k + 1)) w n v).2.1 M.2.2.1 := by
  have hd : 0 ≤ nI k + 1 ∧ nI k + 1 ≤ 40 := by
    rw [← nI_succ]
    exact ⟨nI_le (a := 0) (b := k + 1) (by omega) (by omega), nI_le (a := k + 1) (b := 40) (by omega) (by omega)⟩
  refine iv_mend h hn hw hv hd (fun c j hc => ?_) (fun i hi => ?_)
  · obtain ⟨c1, c2, c3, c4, c5, c6, c7, c8⟩ := ro_chg_n hc
    have b1 := hB c j hc
    have b2 := hR c j hc
    rw [eC] at b2
    simp only [ro_sI_u] at b2 ⊢
    grind [ro_up2]
  · have g := hg i hi
    have b5 := hR2 55 i (by omega)
    have b6 := hR2 56 i (by omega)
    have b7 := hR2 57 i (by omega)
    have b8 := hR2 58 i (by omega)
    rw [eC] at b5 b6 b7 b8
    simp only [ro_sI_u] at b5 b6 b7 b8 ⊢
    by_cases e : i = k
    · rw [e] at b5 b6 b7 b8 ⊢
      grind [ro_up2]
    · have g := g e
      grind [ro_up2]
theorem ro_sI_id {M : ro_Mm} {c j : Nat} {v : Int32} (h : M.2.1 c j = v) : ro_sI M c j v = M := by
  have e : ro_up2 M.2.1 c j v = M.2.1 := by
    funext a b
    unfold ro_up2
    by_cases z : a = c ∧ b = j
    · rw [if_pos z, z.1, z.2, h]
    · rw [if_neg z]
  unfold ro_sI
  rw [e]
theorem cpy_39 {f g : Nat → Int32} {i : Nat} (h : i < 39) : va_cpy f g (1 : Int32).toNatClampNeg (0 : Int32).toNatClampNeg (39 : Int32).toNatClampNeg i = f (i + 1) := by
  have e0 : (0 : Int32).toNatClampNeg = 0 := by decide
  have e1 : (1 : Int32).toNatClampNeg = 1 := by decide
  have e39 : (39 : Int32).toNatClampNeg = 39 := by decide
  unfold va_cpy
  rw [e0, e1, e39, if_pos ⟨Nat.zero_le _, by omega⟩]
  congr 1
  omega
theorem me_all {M : ro_Mm} (h : ro_Inv M) {n w v : Int32} (hq : xf_28 M n w = true) (hq2 : xf_15 M w v = true) (hne : ¬ xf_30 M n w = v) :
    (iv_r (xm_206 (xm_27 M n w v) w n v).2.1 ∧ iv_s (xm_206 (xm_27 M n w v) w n v).2.1 M.2.2.1) ∧ xp_206 (xm_27 M n w v) w n v ∧ xf_206 (xm_27 M n w v) w n v = xf_30 M n w := by
  obtain ⟨hn, hw⟩ := me_in h hq
  obtain ⟨u1, u2, u3⟩ := me_was h hn hw
  have hv : 0 ≤ v ∧ v ≤ ro_mst w := by rw [← (ro_w205 (M := M) hw).2]; exact hq2
  obtain ⟨⟨hg1, hg2, hg3, hg4, hg5, hg6, hg7⟩, hg⟩ := h.2.1.2.2.2.2.2.2.1
  have hC : ∀ c j, c ≠ 7 → c ≠ 8 → c ≠ 9 → c ≠ 10 → c ≠ 5 → c ≠ 54 → c ≠ 55 → c ≠ 56 → c ≠ 57 → c ≠ 58 → (xm_27 M n w v).2.1 c j = M.2.1 c j := fun c j a b d e f g i k l m => xwI_27 a b d e f g i k l m
  have e207 : xf_207 (xm_27 M n w v) w n = xf_30 M n w := (x207_cong (fun c j hc => hC c j (by omega) (by omega) (by omega) (by omega) (by omega) (by omega) (by omega) (by omega) (by omega) (by omega))).trans u1
  have p207 : xp_207 (xm_27 M n w v) w n := u2
  have hE : ∀ c j, c ≠ 7 → c ≠ 8 → c ≠ 9 → c ≠ 10 → c ≠ 5 → (xm_33 M n w v).2.1 c j = M.2.1 c j := fun c j a b d e f => xwI_33 a b d e f
  have h7 : (xm_27 M n w v).2.1 163 7 = M.2.1 54 4 := (hC 163 7 (by decide) (by decide) (by decide) (by decide) (by decide) (by decide) (by decide) (by decide) (by decide) (by decide)).trans hg1
  have e54 : (xm_33 M n w v).2.1 54 4 = M.2.1 54 4 := hE 54 4 (by decide) (by decide) (by decide) (by decide) (by decide)
  refine ⟨?_, ?_, ?_⟩
  · by_cases hD : M.2.1 54 4 < 40
    · have hk := ro_clt (n := 40) hg3 hD (by decide)
      have ek := ro_nI_of hg3
      have n40 : ¬ M.2.1 54 4 = 40 := by grind
      have eC : xm_27 M n w v = ro_sI (ro_sI (ro_sI (ro_sI (ro_sI (ro_sI (xm_33 M n w v) 55 (M.2.1 54 4).toNatClampNeg n) 56 (M.2.1 54 4).toNatClampNeg w) 57 (M.2.1 54 4).toNatClampNeg (xf_30 M n w)) 58 (M.2.1 54 4).toNatClampNeg v) 54 4 (nI (M.2.1 54 4).toNatClampNeg + 1)) 54 5 0 := by
        rw [← ek]
        unfold xm_27 xm_34
        rw [if_pos hq, if_pos hq2, if_neg hne, e54, if_pos hD, if_neg (by grind), if_neg (by grind)]
      have K := me_put (R := xm_27 M n w v) h hk hn hw hv u3 eC (fun _ _ _ _ => rfl) (fun _ _ _ _ => rfl) (fun _ _ _ => rfl) (fun i hi _ => by
        rw [hC 170 i (by decide) (by decide) (by decide) (by decide) (by decide) (by decide) (by decide) (by decide) (by decide) (by decide), hC 169 i (by decide) (by decide) (by decide) (by decide) (by decide) (by decide) (by decide) (by decide) (by decide) (by decide), hC 171 i (by decide) (by decide) (by decide) (by decide) (by decide) (by decide) (by decide) (by decide) (by decide) (by decide), hC 172 i (by decide) (by decide) (by decide) (by decide) (by decide) (by decide) (by decide) (by decide) (by decide) (by decide), hE 55 i (by decide) (by decide) (by decide) (by decide) (by decide), hE 56 i (by decide) (by decide) (by decide) (by decide) (by decide), hE 57 i (by decide) (by decide) (by decide) (by decide) (by decide), hE 58 i (by decide) (by decide) (by decide) (by decide) (by decide)]
        exact hg i hi)
      rw [← ek] at K
      unfold xm_206
      rw [e207, h7, if_neg hne, if_neg n40]
      exact K
    · have e40 : M.2.1 54 4 = 40 := by grind
      have eB : (xm_35 (xm_33 M n w v)).2.1 54 4 = 39 := rfl
      have t39 : (39 : Int32).toNatClampNeg = 39 := by decide
      have eC : xm_27 M n w v = ro_sI (ro_sI (ro_sI (ro_sI (ro_sI (ro_sI (xm_35 (xm_33 M n w v)) 55 39 n) 56 39 w) 57 39 (xf_30 M n w)) 58 39 v) 54 4 (nI 39 + 1)) 54 5 0 := by
        unfold xm_27 xm_34
        rw [if_pos hq, if_pos hq2, if_neg hne, e54, if_neg hD, eB, if_neg (by decide), if_neg (by decide), t39]
        rfl
      have L := x206 (M := ro_sI (xm_27 M n w v) 163 8 0) (u := xf_30 M n w) (w := w) (x := n) (y := v)
      have K := me_put (R := ro_sI ((xm_27 M n w v).1, ro_sh4 (ro_sI (xm_27 M n w v) 163 8 0).2.1 0, (xm_27 M n w v).2.2.1, (xm_27 M n w v).2.2.2) 163 7 39) h (k := 39) (by decide) hn hw hv u3 eC (fun c j hc h54 => by
          obtain ⟨c1, c2, c3, c4, c5, c6, c7, c8⟩ := ro_chg_n hc
          unfold xm_35
          rw [xwI_cpI c4, xwI_cpI c3, xwI_cpI c2, xwI_cpI c1, ro_sI_u]
          unfold ro_up2
          rw [if_neg (fun q => h54 ⟨q.1, Or.inl q.2⟩)]) (fun c j hc h163 => by
          obtain ⟨c1, c2, c3, c4, c5, c6, c7, c8⟩ := ro_chg_n hc
          show ro_up2 (ro_sh4 (ro_up2 (xm_27 M n w v).2.1 163 8 0) 0) 163 7 39 c j = _
          unfold ro_sh4 ro_up2
          dsimp only
          rw [if_neg (fun q => h163 ⟨q.1, Or.inl q.2⟩), if_neg (by omega), if_neg (fun q => h163 ⟨q.1, Or.inr q.2⟩)]) (fun c j hc => by
          show ro_up2 (ro_sh4 (ro_up2 (xm_27 M n w v).2.1 163 8 0) 0) 163 7 39 c j = _
          unfold ro_sh4 ro_up2
          dsimp only
          rw [if_neg (by omega), if_neg (by omega), if_neg (by omega)]) (fun i hi hne39 => by
          have hi39 : i < 39 := by omega
          have sh : ∀ c, c = 169 ∨ c = 170 ∨ c = 171 ∨ c = 172 → (ro_sI ((xm_27 M n w v).1, ro_sh4 (ro_sI (xm_27 M n w v) 163 8 0).2.1 0, (xm_27 M n w v).2.2.1, (xm_27 M n w v).2.2.2) 163 7 39).2.1 c i = M.2.1 c (i + 1) := by
            intro c hc
            show ro_up2 (ro_sh4 (ro_up2 (xm_27 M n w v).2.1 163 8 0) 0) 163 7 39 c i = _
            unfold ro_sh4 ro_up2
            dsimp only
            rw [if_neg (by omega), if_pos ⟨hc, by omega, hi39⟩, if_neg (by omega)]
            exact hC c (i + 1) (by omega) (by omega) (by omega) (by omega) (by omega) (by omega) (by omega) (by omega) (by omega) (by omega)
          have b55 : (xm_35 (xm_33 M n w v)).2.1 55 i = M.2.1 55 (i + 1) := (cpy_39 (f := (xm_33 M n w v).2.1 55) (g := (xm_33 M n w v).2.1 55) hi39).trans (hE 55 (i + 1) (by decide) (by decide) (by decide) (by decide) (by decide))
          have b56 : (xm_35 (xm_33 M n w v)).2.1 56 i = M.2.1 56 (i + 1) := (cpy_39 (f := (xm_33 M n w v).2.1 56) (g := (xm_33 M n w v).2.1 56) hi39).trans (hE 56 (i + 1) (by decide) (by decide) (by decide) (by decide) (by decide))
          have b57 : (xm_35 (xm_33 M n w v)).2.1 57 i = M.2.1 57 (i + 1) := (cpy_39 (f := (xm_33 M n w v).2.1 57) (g := (xm_33 M n w v).2.1 57) hi39).trans (hE 57 (i + 1) (by decide) (by decide) (by decide) (by decide) (by decide))
          have b58 : (xm_35 (xm_33 M n w v)).2.1 58 i = M.2.1 58 (i + 1) := (cpy_39 (f := (xm_33 M n w v).2.1 58) (g := (xm_33 M n w v).2.1 58) hi39).trans (hE 58 (i + 1) (by decide) (by decide) (by decide) (by decide) (by decide))
          rw [sh 170 (by omega), sh 169 (by omega), sh 171 (by omega), sh 172 (by omega), b55, b56, b57, b58]
          exact hg (i + 1) (by omega))
      have eR : ro_sI (ro_sI ((xm_27 M n w v).1, ro_sh4 (ro_sI (xm_27 M n w v) 163 8 0).2.1 0, (xm_27 M n w v).2.2.1, (xm_27 M n w v).2.2.2) 163 7 39) 163 8 0 = ro_sI ((xm_27 M n w v).1, ro_sh4 (ro_sI (xm_27 M n w v) 163 8 0).2.1 0, (xm_27 M n w v).2.2.1, (xm_27 M n w v).2.2.2) 163 7 39 := ro_sI_id rfl
      rw [eR] at K
      unfold xm_206
      rw [e207, h7, e40, if_neg hne, if_pos rfl, L.1]
      exact K
  · unfold xp_206
    rw [e207, h7]
    refine ⟨p207, fun _ => trivial, fun _ => ⟨fun y => ?_, fun y => ?_⟩⟩
    · have v39 : vp_in (M.2.1 54 4 - 1) 40 := ro_vin (n := 40) (by grind) (show M.2.1 54 4 - 1 < 40 by grind) (by decide)
      exact ⟨x206.2, v39, v39, v39, v39, xp_200_t hn hw, trivial⟩
    · have vk : vp_in (M.2.1 54 4) 40 := ro_vin (n := 40) hg3 (show M.2.1 54 4 < 40 by grind) (by decide)
      exact ⟨vk, vk, vk, vk, xp_200_t hn hw, trivial⟩
  · exact e207
end MEND

