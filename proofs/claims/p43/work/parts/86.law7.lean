/-! the law's text taken in: pair law -/
section LAW7
variable {X : ro_Sx}
theorem lw_nar1 {f : Nat → Int32} {w : Int32} {s r : List Int32} (h : lw_one f w s = some r) : vp_nar .byte (lw_act w) = lw_act w := by
  rcases lw_one_i h with ⟨a, _⟩ | ⟨k, hk, a, b, _⟩ | ⟨b, q, a, _⟩ | ⟨b, q, a, _⟩ | ⟨b, a, q, v, n0, n1, n2, n3, _, e, _⟩
  · have : lw_act w = 1 := by unfold lw_act; rw [if_pos a]
    rw [this]; rfl
  · have : lw_act w = 2 := by unfold lw_act; rw [if_neg a, b]; rfl
    rw [this]; rfl
  · subst a; rfl
  · subst a; rfl
  · rcases lw_two_i e with e | e | e | e | e | e | e | e | e | e <;> subst e <;> rfl
theorem lw_narR {f : Nat → Int32} : ∀ {ws s r : List Int32}, lw_run f ws s = some r → ∀ w, w ∈ ws → vp_nar .byte (lw_act w) = lw_act w
  | [], _, _, _, _, h => absurd h List.not_mem_nil
  | a :: ws, s, r, h, w, hw => by
    rw [lw_run] at h
    cases ho : lw_one f a s with
    | none => rw [ho] at h; cases h
    | some s2 =>
      rw [ho] at h
      rcases List.mem_cons.mp hw with e | e
      · rw [e]; exact lw_nar1 ho
      · exact lw_narR h w e
theorem lw_narS {L : List (List Int32 × List Int32)} (hL : ∀ q, q ∈ L → lw_line q) {j : Nat} (hj : j < (lw_steps L).length) : vp_nar .byte (lw_act ((lw_steps L).getD j 0)) = lw_act ((lw_steps L).getD j 0) := by
  have hm : (lw_steps L).getD j 0 ∈ lw_steps L := by
    rw [List.getD_eq_getElem?_getD, List.getElem?_eq_getElem hj]; exact List.getElem_mem hj
  generalize (lw_steps L).getD j 0 = w at hm ⊢
  unfold lw_steps at hm
  obtain ⟨q, hq, hw⟩ := List.mem_flatMap.mp hm
  obtain ⟨h1, h2⟩ := hL q hq
  rcases List.mem_append.mp hw with e | e
  · rcases h1 with h1 | h1
    · rw [h1] at e; exact absurd e List.not_mem_nil
    · obtain ⟨v, hv⟩ := h1 (fun _ => 0)
      exact lw_narR hv w e
  · obtain ⟨v, hv⟩ := h2 (fun _ => 0)
    exact lw_narR hv w e
theorem nar_s2 : ∀ x, x < 131 → vp_nar .short (nI x) = nI x := by decide +kernel
/-- the class's copy -/
theorem c44 {K : Nat} (hK : K ≤ 121) {v1 : Int32} : ∀ (d k n : Nat) (C : ro_Mm), k + d = K → d < n → C.2.1 16 7 = nI K → xq_44_31 n C (nI k) v1 ∧ (xg_44_31 n C (nI k) v1).2.1 = C.1 ∧ (xg_44_31 n C (nI k) v1).2.2.2 = C.2.2 ∧ (∀ c j, c ≠ 19 → (xg_44_31 n C (nI k) v1).2.2.1 c j = C.2.1 c j) ∧ (∀ j, j < k → (xg_44_31 n C (nI k) v1).2.2.1 19 j = C.2.1 19 j) ∧ (∀ j, k ≤ j → j < K → (xg_44_31 n C (nI k) v1).2.2.1 19 j = C.2.1 18 j) := by
  intro d
  induction d with
  | zero =>
    intro k n C hk hn h7
    cases n with
    | zero => omega
    | succ n =>
      have c0 : C.2.1 16 7 ≤ nI k := by rw [h7]; exact nI_le (by omega) (by omega)
      rw [xg_44_31, xq_44_31, if_pos c0]
      exact ⟨⟨fun _ => trivial, fun y => absurd c0 y⟩, rfl, rfl, fun _ _ _ => rfl, fun _ _ => rfl, fun j h1 h2 => by omega⟩
  | succ d ih =>
    intro k n C hk hn h7
    cases n with
    | zero => omega
    | succ n =>
      have c0 : ¬ C.2.1 16 7 ≤ nI k := by rw [h7]; exact nI_ge (by omega) (by omega)
      have c1 : ¬ (121 : Int32) ≤ nI k := nI_ge (b := 121) (by omega) (by omega)
      have ek : (nI k).toNatClampNeg = k := nI_clamp (by omega)
      have vk : vp_in (nI k) 121 := ro_vn (by omega) (by omega)
      obtain ⟨i1, i2, i3, i4, i5, i6⟩ := ih (k + 1) n (ro_sI C 19 k (C.2.1 18 k)) (by omega) (by omega) (by rw [ro_sI_ne (by decide)]; exact h7)
      rw [xg_44_31, xq_44_31, if_neg c0, if_neg c1, ek, nI_1]
      refine ⟨⟨fun y => absurd y c0, fun _ => ⟨fun y => absurd y c1, fun _ => ⟨vk, vk, i1⟩⟩⟩, i2, i3, fun c j hc => (i4 c j hc).trans (ro_sI_ne hc), fun j hj => ?_, fun j h1 h2 => ?_⟩
      · rw [i5 j (by omega), ro_rd_s, if_neg (by omega)]
      · by_cases e : j = k
        · subst e; rw [i5 j (by omega), ro_rd_s, if_pos ⟨rfl, rfl⟩]
        · rw [i6 j (by omega) h2, ro_sI_ne (by decide)]
/-- the reference's -/
theorem c105 {K : Nat} (hK : K ≤ 121) : ∀ (d k n : Nat) (C : ro_Mm), k + d = K → d < n → C.2.1 163 18 = nI K → xq_212_105 n C (nI k) 0 ∧ (xg_212_105 n C (nI k) 0).2.1 = C.1 ∧ (xg_212_105 n C (nI k) 0).2.2.2 = C.2.2 ∧ (∀ c j, ¬ ((c = 174 ∨ c = 175) ∧ k ≤ j ∧ j < K) → (xg_212_105 n C (nI k) 0).2.2.1 c j = C.2.1 c j) ∧ (∀ j, k ≤ j → j < K → (xg_212_105 n C (nI k) 0).2.2.1 174 j = vp_nar .byte (C.2.1 174 (130 + j)) ∧ (xg_212_105 n C (nI k) 0).2.2.1 175 j = C.2.1 175 (130 + j)) := by
  intro d
  induction d with
  | zero =>
    intro k n C hk hn h7
    cases n with
    | zero => omega
    | succ n =>
      have c0 : C.2.1 163 18 ≤ nI k := by rw [h7]; exact nI_le (by omega) (by omega)
      rw [xg_212_105, xq_212_105, if_pos c0]
      exact ⟨⟨fun _ => trivial, fun y => absurd c0 y⟩, rfl, rfl, fun _ _ _ => rfl, fun j h1 h2 => by omega⟩
  | succ d ih =>
    intro k n C hk hn h7
    cases n with
    | zero => omega
    | succ n =>
      have c0 : ¬ C.2.1 163 18 ≤ nI k := by rw [h7]; exact nI_ge (by omega) (by omega)
      have e1 : (130 : Int32) + nI k = nI (130 + k) := nI_add 130 k
      have e2 : (130 : Int32) * 0 + nI k = nI k := by rw [show (130 : Int32) * 0 = 0 from rfl, Int32.zero_add]
      have ek : (nI k).toNatClampNeg = k := nI_clamp (by omega)
      have ek2 : (nI (130 + k)).toNatClampNeg = 130 + k := nI_clamp (by omega)
      have v1 : vp_in (nI k) 260 := ro_vn (by omega) (by omega)
      have v2 : vp_in (nI (130 + k)) 260 := ro_vn (by omega) (by omega)
      obtain ⟨i1, i2, i3, i4, i5⟩ := ih (k + 1) n (ro_sI (ro_sI C 174 k (vp_nar .byte (C.2.1 174 (130 + k)))) 175 k (C.2.1 175 (130 + k))) (by omega) (by omega) (by rw [ro_sI_ne (by decide), ro_sI_ne (by decide)]; exact h7)
      rw [xg_212_105, xq_212_105, if_neg c0, e1, e2, ek, ek2, nI_1]
      refine ⟨⟨fun y => absurd y c0, fun _ => ⟨v2, v1, v2, v1, i1⟩⟩, i2, i3, fun c j hc => ?_, fun j h1 h2 => ?_⟩
      · rw [i4 c j (by omega), ro_rd_s, if_neg (by omega), ro_rd_s, if_neg (by omega)]
      · by_cases e : j = k
        · subst e
          rw [i4 174 j (by omega), i4 175 j (by omega)]
          refine ⟨?_, ?_⟩
          · rw [ro_sI_ne (by decide), ro_rd_s, if_pos ⟨rfl, rfl⟩]
          · rw [ro_rd_s, if_pos ⟨rfl, rfl⟩]
        · obtain ⟨g1, g2⟩ := i5 j (by omega) h2
          rw [g1, g2, ro_sI_ne (by decide), ro_rd_s, if_neg (by omega), ro_rd_s, if_neg (by omega), ro_sI_ne (by decide)]
          exact ⟨rfl, rfl⟩
theorem c177 {K : Nat} (hK : K ≤ 61) : ∀ (d k n : Nat) (C : ro_Mm), k + d = K → d < n → C.2.1 176 0 = nI K → xq_212_177 n C (nI k) 0 ∧ (xg_212_177 n C (nI k) 0).2.1 = C.1 ∧ (xg_212_177 n C (nI k) 0).2.2.2 = C.2.2 ∧ (∀ c j, ¬ ((c = 177 ∨ c = 178) ∧ k ≤ j ∧ j < K) → (xg_212_177 n C (nI k) 0).2.2.1 c j = C.2.1 c j) ∧ (∀ j, k ≤ j → j < K → (xg_212_177 n C (nI k) 0).2.2.1 177 j = vp_nar .short (C.2.1 177 (61 + j)) ∧ (xg_212_177 n C (nI k) 0).2.2.1 178 j = vp_nar .short (C.2.1 178 (61 + j))) := by
  have e0 : (0 : Int32).toNatClampNeg = 0 := rfl
  have v0 : vp_in (0 : Int32) 2 := ro_vn (k := 0) (by omega) (by omega)
  intro d
  induction d with
  | zero =>
    intro k n C hk hn h7
    cases n with
    | zero => omega
    | succ n =>
      have c0 : C.2.1 176 0 ≤ nI k := by rw [h7]; exact nI_le (by omega) (by omega)
      rw [xg_212_177, xq_212_177, e0, if_pos c0]
      exact ⟨⟨v0, fun _ => trivial, fun y => absurd c0 y⟩, rfl, rfl, fun _ _ _ => rfl, fun j h1 h2 => by omega⟩
  | succ d ih =>
    intro k n C hk hn h7
    cases n with
    | zero => omega
    | succ n =>
      have c0 : ¬ C.2.1 176 0 ≤ nI k := by rw [h7]; exact nI_ge (by omega) (by omega)
      have e1 : (61 : Int32) + nI k = nI (61 + k) := nI_add 61 k
      have e2 : (61 : Int32) * 0 + nI k = nI k := by rw [show (61 : Int32) * 0 = 0 from rfl, Int32.zero_add]
      have ek : (nI k).toNatClampNeg = k := nI_clamp (by omega)
      have ek2 : (nI (61 + k)).toNatClampNeg = 61 + k := nI_clamp (by omega)
      have v1 : vp_in (nI k) 122 := ro_vn (by omega) (by omega)
      have v2 : vp_in (nI (61 + k)) 122 := ro_vn (by omega) (by omega)
      obtain ⟨i1, i2, i3, i4, i5⟩ := ih (k + 1) n (ro_sI (ro_sI C 177 k (vp_nar .short (C.2.1 177 (61 + k)))) 178 k (vp_nar .short (C.2.1 178 (61 + k)))) (by omega) (by omega) (by rw [ro_sI_ne (by decide), ro_sI_ne (by decide)]; exact h7)
      rw [xg_212_177, xq_212_177, e0, if_neg c0, e1, e2, ek, ek2, nI_1]
      refine ⟨⟨v0, fun y => absurd y c0, fun _ => ⟨v2, v1, v2, v1, i1⟩⟩, i2, i3, fun c j hc => ?_, fun j h1 h2 => ?_⟩
      · rw [i4 c j (by omega), ro_rd_s, if_neg (by omega), ro_rd_s, if_neg (by omega)]
      · by_cases e : j = k
        · subst e
          rw [i4 177 j (by omega), i4 178 j (by omega)]
          refine ⟨?_, ?_⟩
          · rw [ro_sI_ne (by decide), ro_rd_s, if_pos ⟨rfl, rfl⟩]
          · rw [ro_rd_s, if_pos ⟨rfl, rfl⟩]
        · obtain ⟨g1, g2⟩ := i5 j (by omega) h2
          rw [g1, g2, ro_sI_ne (by decide), ro_rd_s, if_neg (by omega), ro_rd_s, if_neg (by omega), ro_sI_ne (by decide)]
          exact ⟨rfl, rfl⟩
/-- what the law's reading may change of what counts -/
def lb (c j : Nat) : Bool := match c with
  | 16 => j == 5 || j == 8
  | 19 => true
  | 163 => j == 14 || j == 26
  | 174 | 175 | 176 | 177 | 178 => true
  | _ => false
def lb_I (I I' : Nat → Nat → Int32) (c j : Nat) : Int32 := bif lb c j then I c j else I' c j
theorem lw_inv {M C : ro_Mm} (h : ro_Inv M) (hL : ro_lay C) (hJ : C.2.2.1 = M.2.2.1) (hI : ∀ c j, ro_lv c j = true → lb c j = false → C.2.1 c j = M.2.1 c j) (h1 : C.2.1 16 5 = 0) (h2 : C.2.1 163 14 = 0) (h3 : iv_f C.2.1) : ro_Inv C := by
  have g : iv_r (lb_I M.2.1 C.2.1) := by
    refine iv_r_c (fun c j e => ?_) h.2.1
    unfold lb_I
    cases hb : lb c j with
    | true => rfl
    | false => exact hI c j (by unfold ro_lv; rw [e]; rfl) hb
  obtain ⟨a1, a2, a3, a4, a5, a6, a7, a8⟩ := g
  refine ⟨hL, ⟨a1, a2, a3, a4, ⟨⟨by rw [h1, h2], by rw [h1]; decide, by rw [h1]; decide⟩, a5.2⟩, h3, a7, a8⟩, ?_⟩
  refine iv_s_c (fun c j e => ?_) (fun c j _ => by rw [hJ]) h.2.2
  refine hI c j (by unfold ro_lv; rw [e]; exact Bool.or_true _) ?_
  unfold ro_ls at e
  simp only [Bool.or_eq_true, Bool.and_eq_true, beq_iff_eq] at e
  unfold lb
  rcases e with ((((((((e | e) | e) | e) | e) | e) | e) | e) | e) <;> first | (subst e; rfl) | (obtain ⟨e, _⟩ := e; subst e; rfl)
abbrev lwA (M : ro_Mm) : ro_Mm := ro_sI (ro_sI M 16 6 0) 16 7 0
abbrev lwB (M : ro_Mm) : ro_Mm := ro_sI (ro_sI (ro_sI (ro_sI (ro_sI M 163 15 0) 163 16 (-1)) 163 17 0) 163 18 0) 176 1 0
theorem lw_by : ∀ x, x < 256 → (x ≤ 127 → vp_nar .byte ((nI x).toInt8.toInt32) = nI x) ∧ (¬ x ≤ 127 → vp_nar .byte ((nI x).toInt8.toInt32) < 0) := by decide +kernel
theorem lw_tape {M : ro_Mm} (h : ro_Inv M) : ∃ (z : Nat) (q : Nat → Int32), (∀ bz, bz ≤ 130 → pT bz z (M.2.1 17) (M.2.1 173) q) ∧ M.2.1 16 5 = nI z ∧ M.2.1 163 14 = nI z := by
  obtain ⟨⟨e1, e2, e3⟩, e4⟩ := h.2.1.2.2.2.2.1
  obtain ⟨z, hz, ez⟩ := nI_of2 (x := M.2.1 16 5) (M := 120) (n := 120) (by decide) (Int32.not_lt.mpr e2) e3
  refine ⟨z, fun i => if M.2.1 17 i ≤ 127 then M.2.1 17 i else -1, fun bz hb => ⟨⟨hz, hb⟩, fun i hi => ?_, fun i hi => ?_⟩, ez, e1.trans ez⟩
  · obtain ⟨g1, g2, g3⟩ := e4 i (by omega)
    dsimp only
    by_cases c : M.2.1 17 i ≤ 127
    · rw [if_pos c]; exact Or.inl ⟨rfl, g2, c⟩
    · rw [if_neg c]; exact Or.inr ⟨rfl, Or.inr (Int32.not_le.mp c)⟩
  · obtain ⟨g1, g2, g3⟩ := e4 i (by omega)
    obtain ⟨x, hx, ex⟩ := nI_of2 (x := M.2.1 17 i) (M := 255) (n := 255) (by decide) (Int32.not_lt.mpr g2) g3
    obtain ⟨w1, w2⟩ := lw_by x (by omega)
    dsimp only
    rw [g1, ex]
    rw [ex] at g2
    by_cases c : x ≤ 127
    · have c2 : nI x ≤ 127 := nI_le (b := 127) c (by omega)
      rw [if_pos c2, w1 c]; exact Or.inl ⟨rfl, g2, c2⟩
    · have c2 : ¬ nI x ≤ 127 := nI_ge (a := 127) (by omega) (by omega)
      rw [if_neg c2]; exact Or.inr ⟨rfl, Or.inl (w2 c)⟩
theorem lw_S0 {z : Nat} {t s : Nat → Int32} {A B : ro_Mm} (h1 : A.2.1 16 5 = nI z) (h2 : ∀ i, i < z → A.2.1 17 i = t i) (h3 : B.2.1 163 14 = nI z) (h4 : ∀ i, i < z → B.2.1 173 i = s i) : ls_S z t s [] (lwA A) (lwB B) 0 ∧ pf_A A (lwA A) ∧ pg_B B (lwB B) := by
  refine ⟨⟨⟨?_, fun i hi => ?_, ?_, ?_⟩, ⟨?_, fun i hi => ?_, ?_, ?_, ?_, ?_⟩, fun x hx => absurd hx List.not_mem_nil, fun j hj => absurd hj (Nat.not_lt_zero _), fun j hj => absurd hj (Nat.not_lt_zero _), ?_, fun j hj => absurd hj (Nat.not_lt_zero _)⟩, ⟨rfl, rfl, fun c j n1 n2 => ?_⟩, ⟨rfl, rfl, fun c j n1 n2 n3 n4 => ?_⟩⟩
  · rw [ro_rd_s, if_neg (by omega), ro_rd_s, if_neg (by omega)]; exact h1
  · rw [ro_sI_ne (by decide), ro_sI_ne (by decide)]; exact h2 i hi
  · rw [ro_rd_s, if_neg (by omega), ro_rd_s, if_pos ⟨rfl, rfl⟩]; rfl
  · rw [ro_rd_s, if_pos ⟨rfl, rfl⟩]; rfl
  · rw [ro_sI_ne (by decide), ro_rd_s, if_neg (by omega), ro_rd_s, if_neg (by omega), ro_rd_s, if_neg (by omega), ro_rd_s, if_neg (by omega)]; exact h3
  · rw [ro_sI_ne (by decide), ro_sI_ne (by decide), ro_sI_ne (by decide), ro_sI_ne (by decide), ro_sI_ne (by decide)]; exact h4 i hi
  · rw [ro_sI_ne (by decide), ro_rd_s, if_neg (by omega), ro_rd_s, if_neg (by omega), ro_rd_s, if_neg (by omega), ro_rd_s, if_pos ⟨rfl, rfl⟩]; rfl
  · rw [ro_sI_ne (by decide), ro_rd_s, if_neg (by omega), ro_rd_s, if_neg (by omega), ro_rd_s, if_pos ⟨rfl, rfl⟩]
  · rw [ro_sI_ne (by decide), ro_rd_s, if_neg (by omega), ro_rd_s, if_pos ⟨rfl, rfl⟩]; rfl
  · rw [ro_sI_ne (by decide), ro_rd_s, if_pos ⟨rfl, rfl⟩]; rfl
  · rw [ro_rd_s, if_pos ⟨rfl, rfl⟩]; rfl
  · rw [ro_rd_s, if_neg (by omega), ro_rd_s, if_neg (by omega)]
  · rw [ro_rd_s, if_neg (by omega), ro_rd_s, if_neg (by omega), ro_rd_s, if_neg (by omega), ro_rd_s, if_neg (by omega), ro_rd_s, if_neg (by omega)]
end LAW7

