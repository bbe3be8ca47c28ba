/-! the law's text: lines -/
section LAW5
def pg_B (A B : ro_Mm) : Prop := B.1 = A.1 ∧ B.2.2 = A.2.2 ∧ ∀ c j, ¬ (c = 163 ∧ 15 ≤ j ∧ j ≤ 18) → ¬ ((c = 174 ∨ c = 175) ∧ 130 ≤ j) → ¬ (c = 176 ∧ j = 1) → ¬ ((c = 177 ∨ c = 178) ∧ 61 ≤ j) → B.2.1 c j = A.2.1 c j
theorem pg_B_t {A B C : ro_Mm} (h : pg_B A B) (g : pg_B B C) : pg_B A C := ⟨g.1.trans h.1, g.2.1.trans h.2.1, fun c j n1 n2 n3 n4 => (g.2.2 c j n1 n2 n3 n4).trans (h.2.2 c j n1 n2 n3 n4)⟩
theorem pg_of {A B : ro_Mm} (h : pf_B A B) : pg_B A B := ⟨h.1, h.2.1, fun c j n1 n2 _ _ => h.2.2 c j n1 n2⟩
theorem pg_r {A : ro_Mm} : pg_B A A := ⟨rfl, rfl, fun _ _ _ _ _ _ => rfl⟩
theorem pg_177 {A : ro_Mm} {j : Nat} {v : Int32} (h : 61 ≤ j) : pg_B A (ro_sI A 177 j v) := ⟨rfl, rfl, fun c i _ _ _ n4 => by rw [ro_rd_s, if_neg (by omega)]⟩
theorem pg_178 {A : ro_Mm} {j : Nat} {v : Int32} (h : 61 ≤ j) : pg_B A (ro_sI A 178 j v) := ⟨rfl, rfl, fun c i _ _ _ n4 => by rw [ro_rd_s, if_neg (by omega)]⟩
theorem pg_176 {A : ro_Mm} {v : Int32} : pg_B A (ro_sI A 176 1 v) := ⟨rfl, rfl, fun c i _ _ n3 _ => by rw [ro_rd_s, if_neg n3]⟩
theorem i32_c {a x y : Int32} (h : a + x = a + y) : x = y := by
  have h2 := congrArg (fun v => v - a) h
  have e : ∀ v : Int32, a + v - a = v := fun v => by rw [Int32.add_comm, Int32.add_sub_cancel]
  exact (e x).symm.trans (h2.trans (e y))
theorem nar_s : ∀ x, x < 131 → vp_nar .short ((nI x).toInt16.toInt32) = nI x := by decide +kernel
theorem lw_cn : ∀ L : List (List Int32 × List Int32), (lw_codes L).length = (lw_steps L).length + L.length
  | [] => rfl
  | q :: L => by
    rw [lw_codes_c, lw_steps_c, List.length_append, List.length_append (bs := lw_steps L), List.length_cons, List.length_cons, lw_cn L]
    omega
theorem lw_codes_a (A B : List (List Int32 × List Int32)) : lw_codes (A ++ B) = lw_codes A ++ lw_codes B := by
  unfold lw_codes
  exact List.flatMap_append
theorem lw_co1 (q : List Int32 × List Int32) : lw_codes [q] = q.1 ++ q.2 ++ [if q.1 = [] then -59 else -63] := by
  rw [lw_codes_c]; rfl
theorem lw_st1 (q : List Int32 × List Int32) : lw_steps [q] = q.1 ++ q.2 := by
  rw [lw_steps_c]; exact List.append_nil _
theorem gD_l {A B : List Int32} {i : Nat} (h : i < A.length) : (A ++ B).getD i 0 = A.getD i 0 := by rw [List.getD_eq_getElem?_getD, List.getD_eq_getElem?_getD, List.getElem?_append_left h]
theorem gD_r {A B : List Int32} {i : Nat} : (A ++ B).getD (A.length + i) 0 = B.getD i 0 := by rw [List.getD_eq_getElem?_getD, List.getD_eq_getElem?_getD, List.getElem?_append_right (by omega), show A.length + i - A.length = i by omega]
theorem gD_l2 {A B : List (List Int32 × List Int32)} {i : Nat} (h : i < A.length) : (A ++ B).getD i ([], []) = A.getD i ([], []) := by rw [List.getD_eq_getElem?_getD, List.getD_eq_getElem?_getD, List.getElem?_append_left h]
theorem gD_r2 {A : List (List Int32 × List Int32)} {q : List Int32 × List Int32} : (A ++ [q]).getD A.length ([], []) = q := by rw [List.getD_eq_getElem?_getD, List.getElem?_append_right (Nat.le_refl _), Nat.sub_self]; rfl
theorem tk_l {A B : List (List Int32 × List Int32)} {i : Nat} (h : i ≤ A.length) : (A ++ B).take i = A.take i := List.take_append_of_le_length h
def ls_S (z : Nat) (t s : Nat → Int32) (L : List (List Int32 × List Int32)) (A B : ro_Mm) (a : Nat) : Prop :=
  ps_A z t A a (lw_codes L).length ∧ ps_B (130 - L.length) z s B a (lw_codes L).length 0 ∧ (∀ q, q ∈ L → lw_line q) ∧ (∀ j, j < (lw_codes L).length → A.2.1 18 j = (lw_codes L).getD j 0) ∧
  (∀ j, j < (lw_steps L).length → B.2.1 174 (130 + j) = lw_act ((lw_steps L).getD j 0) ∧ B.2.1 175 (130 + j) = lw_with ((lw_steps L).getD j 0)) ∧ B.2.1 176 1 = nI L.length ∧
  (∀ l, l < L.length → B.2.1 177 (61 + l) = nI ((lw_steps (L.take l)).length + (L.getD l ([], [])).1.length) ∧ B.2.1 178 (61 + l) = nI (lw_steps (L.take (l + 1))).length)
section LS
variable {z : Nat} {t s q : Nat → Int32}
theorem ls_18 {bz : Nat} {B : ro_Mm} {a k o : Nat} (h : ps_B bz z s B a k o) {x : Nat} (e : bz + k = 130 + x) : B.2.1 163 18 = nI x := by
  have h6 := h.2.2.2.2.2
  rw [e, ← nI_add] at h6
  exact i32_c h6
/-- a line done -/
theorem ls_mk {L : List (List Int32 × List Int32)} {A B A' B' : ro_Mm} {a a' : Nat} (hS : ls_S z t s L A B a) (hn : L.length ≤ 60) {ws1 ws2 : List Int32} (h1 : ws1 = [] ∨ lw_wf ws1) (h2 : lw_wf ws2)
    (hA : ps_A z t A' a' ((lw_codes L).length + (ws1 ++ ws2).length)) (hB : ps_B (130 - L.length) z s B' a' ((lw_codes L).length + (ws1 ++ ws2).length) 0) (hk : (lw_codes L).length + (ws1 ++ ws2).length ≤ 120)
    (hl : pl (130 - L.length) A A' B B' (lw_codes L).length) (hw : pw (130 - L.length) A' B' (lw_codes L).length (ws1 ++ ws2)) (e176 : B'.2.1 176 1 = nI L.length) (e177 : B'.2.1 177 (61 + L.length) = nI ((lw_steps L).length + ws1.length))
    (ho : ∀ l, l < L.length → B'.2.1 177 (61 + l) = B.2.1 177 (61 + l) ∧ B'.2.1 178 (61 + l) = B.2.1 178 (61 + l)) {ec : Int32} (hec : ec = if ws1 = [] then -59 else -63) :
    ls_S z t s (L ++ [(ws1, ws2)]) (xm_51 A' ec) (ro_sI (ro_sI B' 178 (61 + L.length) (vp_nar .short ((B'.2.1 163 18).toInt16.toInt32))) 176 1 (nI (L.length + 1))) a' := by
  have cn := lw_cn L
  have e18 : B'.2.1 163 18 = nI ((lw_steps L).length + (ws1 ++ ws2).length) := ls_18 hB (by omega)
  have ecodes : lw_codes (L ++ [(ws1, ws2)]) = lw_codes L ++ ((ws1 ++ ws2) ++ [ec]) := by rw [lw_codes_a, lw_co1, hec]
  have esteps : lw_steps (L ++ [(ws1, ws2)]) = lw_steps L ++ (ws1 ++ ws2) := by rw [lw_steps_a, lw_st1]
  have lcodes : (lw_codes (L ++ [(ws1, ws2)])).length = (lw_codes L).length + (ws1 ++ ws2).length + 1 := by
    rw [ecodes, List.length_append, List.length_append (as := ws1 ++ ws2)]; rfl
  have lsteps : (lw_steps (L ++ [(ws1, ws2)])).length = (lw_steps L).length + (ws1 ++ ws2).length := by rw [esteps, List.length_append]
  have lL : (L ++ [(ws1, ws2)]).length = L.length + 1 := List.length_append
  obtain ⟨a1, a2, a3, a4⟩ := hA
  obtain ⟨b1, b2, b3, b4, b5, b6⟩ := hB
  obtain ⟨s1, s2, s3, s4, s5, s6, s7⟩ := hS
  have c1 : ¬ nI ((lw_codes L).length + (ws1 ++ ws2).length) < 0 := nI_pos (by omega)
  have c2 : ¬ (121 : Int32) ≤ nI ((lw_codes L).length + (ws1 ++ ws2).length) := nI_ge (b := 121) (by omega) (by omega)
  have e51 : xm_51 A' ec = ro_sI (ro_sI A' 18 ((lw_codes L).length + (ws1 ++ ws2).length) ec) 16 7 (nI ((lw_codes L).length + (ws1 ++ ws2).length + 1)) := by
    unfold xm_51; rw [a4, if_neg c1, if_neg c2, nI_clamp (by omega), nI_1]
  rw [e51, e18, nar_s _ (by omega)]
  refine ⟨⟨?_, fun i hi => ?_, ?_, ?_⟩, ⟨?_, fun i hi => ?_, ?_, ?_, ?_, ?_⟩, fun x hx => ?_, fun j hj => ?_, fun j hj => ?_, ?_, fun l hl2 => ?_⟩
  · rw [ro_rd_s, if_neg (by omega), ro_sI_ne (by decide)]; exact a1
  · rw [ro_sI_ne (by decide), ro_sI_ne (by decide)]; exact a2 i hi
  · rw [ro_rd_s, if_neg (by omega), ro_sI_ne (by decide)]; exact a3
  · rw [ro_rd_s, if_pos ⟨rfl, rfl⟩, lcodes]
  · rw [ro_sI_ne (by decide), ro_sI_ne (by decide)]; exact b1
  · rw [ro_sI_ne (by decide), ro_sI_ne (by decide)]; exact b2 i hi
  · rw [ro_sI_ne (by decide), ro_sI_ne (by decide)]; exact b3
  · rw [ro_sI_ne (by decide), ro_sI_ne (by decide)]; exact b4
  · rw [ro_sI_ne (by decide), ro_sI_ne (by decide)]; exact b5
  · rw [ro_sI_ne (by decide), ro_sI_ne (by decide), b6, lcodes, lL]
    congr 1; omega
  · rcases List.mem_append.mp hx with h | h
    · exact s3 x h
    · rw [List.mem_singleton.mp h]; exact ⟨h1, h2⟩
  · rw [ro_sI_ne (by decide), ecodes]
    by_cases q1 : j < (lw_codes L).length
    · rw [ro_rd_s, if_neg (by omega), (hl j q1).1, gD_l q1]; exact s4 j q1
    · obtain ⟨i, hi⟩ : ∃ i, j = (lw_codes L).length + i := ⟨j - (lw_codes L).length, by omega⟩
      subst hi
      rw [gD_r]
      by_cases q2 : i < (ws1 ++ ws2).length
      · rw [ro_rd_s, if_neg (by omega), gD_l q2]; exact (hw i q2).1
      · have e : i = (ws1 ++ ws2).length + 0 := by omega
        subst e
        rw [gD_r, ro_rd_s, if_pos ⟨rfl, rfl⟩]; rfl
  · rw [ro_sI_ne (by decide), ro_sI_ne (by decide), ro_sI_ne (by decide), ro_sI_ne (by decide), esteps]
    by_cases q1 : j < (lw_steps L).length
    · have h3 := hl (L.length + j) (by omega)
      rw [show 130 - L.length + (L.length + j) = 130 + j by omega] at h3
      rw [gD_l q1, h3.2.1, h3.2.2]; exact s5 j q1
    · obtain ⟨i, hi⟩ : ∃ i, j = (lw_steps L).length + i := ⟨j - (lw_steps L).length, by omega⟩
      subst hi
      have h3 := hw i (by omega)
      rw [show 130 - L.length + ((lw_codes L).length + i) = 130 + ((lw_steps L).length + i) by omega] at h3
      rw [gD_r]; exact h3.2
  · rw [ro_rd_s, if_pos ⟨rfl, rfl⟩, lL]
  · by_cases q1 : l < L.length
    · rw [tk_l (by omega), tk_l (by omega), gD_l2 q1]
      rw [ro_sI_ne (by decide), ro_sI_ne (by decide), ro_sI_ne (by decide), ro_rd_s, if_neg (by omega), (ho l q1).1, (ho l q1).2]
      exact s7 l q1
    · have e : l = L.length := by omega
      subst e
      rw [tk_l (Nat.le_refl _), List.take_length, gD_r2]
      have e2 : (L ++ [(ws1, ws2)]).take (L.length + 1) = L ++ [(ws1, ws2)] := List.take_of_length_le (by omega)
      rw [e2, lsteps]
      refine ⟨?_, ?_⟩
      · rw [ro_sI_ne (by decide), ro_sI_ne (by decide)]; exact e177
      · rw [ro_sI_ne (by decide), ro_rd_s, if_pos ⟨rfl, rfl⟩]
end LS
end LAW5

