/-! what holds of the class's cells alone between calls; ghost cells that make the pair's invariant out of it; a call of the class's, in a memory with the law's rows behind -/
def kv_a (I : Nat → Nat → Int32) : Prop := 0 ≤ I 5 4 ∧ I 5 4 ≤ 6 ∧ 0 ≤ I 5 5 ∧ I 5 5 ≤ 4 ∧ 0 ≤ I 5 6 ∧ I 5 6 ≤ 11 ∧ 0 ≤ I 5 7 ∧ I 5 7 ≤ 12
def kv_b (I : Nat → Nat → Int32) : Prop := ∀ i, i < 6 → (0 ≤ I 7 i ∧ I 7 i ≤ 20) ∧ (0 ≤ I 8 i ∧ I 8 i ≤ 20) ∧ (0 ≤ I 9 i ∧ I 9 i ≤ 12) ∧ (0 ≤ I 10 i ∧ I 10 i ≤ 20)
def kv_d (I : Nat → Nat → Int32) : Prop := (I 5 10 = 0 ∨ I 5 10 = 1) ∧ (0 ≤ I 5 11 ∧ I 5 11 ≤ 6) ∧ (0 ≤ I 5 12 ∧ I 5 12 ≤ 11) ∧ (∀ i, i < 6 → (0 ≤ I 13 i ∧ I 13 i ≤ 20) ∧ (0 ≤ I 14 i ∧ I 14 i ≤ 20))
def kv_e (I : Nat → Nat → Int32) : Prop := (0 ≤ I 16 5 ∧ I 16 5 ≤ 120) ∧ (∀ i, i < 120 → 0 ≤ I 17 i ∧ I 17 i ≤ 255)
def kv_f (L : List (List Int32 × List Int32)) (I : Nat → Nat → Int32) : Prop := (∀ q, q ∈ L → lw_line q) ∧ (lw_codes L).length ≤ 121 ∧ I 16 8 = nI (lw_codes L).length ∧ (∀ k, k < (lw_codes L).length → I 19 k = (lw_codes L).getD k 0) ∧ L.length ≤ 61
def kv_g (I : Nat → Nat → Int32) : Prop := (0 ≤ I 54 4 ∧ I 54 4 ≤ 40 ∧ 0 ≤ I 54 5 ∧ I 54 4 + I 54 5 ≤ 40 ∧ I 54 5 ≤ 40) ∧ (∀ i, i < 40 → (0 ≤ I 55 i ∧ I 55 i < 6) ∧ (0 ≤ I 56 i ∧ I 56 i ≤ 6) ∧ (0 ≤ I 57 i ∧ I 57 i ≤ ro_mst (I 56 i)) ∧ (0 ≤ I 58 i ∧ I 58 i ≤ ro_mst (I 56 i)))
def kv_h (I : Nat → Nat → Int32) : Prop := (0 ≤ I 59 2 ∧ I 59 2 ≤ 50) ∧ 0 ≤ I 59 3 ∧ (∀ i, i < 50 → 0 ≤ I 60 i ∧ I 60 i ≤ 7)
def kv_sh (I : Nat → Nat → Int32) (s : Nat) : Prop := I (23 + 2 * s) 1 = -2 ∨ (I (23 + 2 * s) 1 = -1 ∧ 0 ≤ I (23 + 2 * s) 3 ∧ I (23 + 2 * s) 3 < I 59 2) ∨ (0 ≤ I (23 + 2 * s) 1 ∧ I (23 + 2 * s) 1 ≤ 4 ∧ 0 ≤ I (23 + 2 * s) 2 ∧ I (23 + 2 * s) 2 ≤ 60)
def kv_r (L : List (List Int32 × List Int32)) (I : Nat → Nat → Int32) : Prop := kv_a I ∧ kv_b I ∧ kv_d I ∧ kv_e I ∧ kv_f L I ∧ kv_g I ∧ kv_h I ∧ ∀ s, s < 6 → kv_sh I s
/-- the references -/
def kv_q (M : ro_Mm) : Prop := M.1.take 159 = ro_sh ∧ (∀ e, e ∈ ro_rt → M.2.2.2 e.1 e.2.1 = .ref e.2.2) ∧ ro_lev M
def kv (L : List (List Int32 × List Int32)) (M : ro_Mm) : Prop := kv_q M ∧ kv_r L M.2.1
/-- the ghosts -/
def kg_I (L : List (List Int32 × List Int32)) (I : Nat → Nat → Int32) (c j : Nat) : Int32 := match c with
  | 163 => match j with
    | 1 => I 5 4
    | 7 => I 54 4
    | 8 => I 54 5
    | 14 => I 16 5
    | 26 => if L = [] then 0 else 1
    | 43 => I 5 10
    | 44 => I 5 11
    | 45 => I 5 12
    | 49 => I 59 2
    | 51 => I 59 3
    | _ => 0
  | 164 => I 7 j
  | 165 => I 8 j
  | 166 => I 9 j
  | 167 => I 10 j
  | 168 => match j with
    | 0 => I 5 5
    | 1 => I 5 6
    | _ => I 5 7
  | 169 => I 56 j
  | 170 => I 55 j
  | 171 => I 57 j
  | 172 => I 58 j
  | 173 => vp_nar .byte ((I 17 j).toInt8.toInt32)
  | 174 => lw_act ((lw_steps L).getD j 0)
  | 175 => lw_with ((lw_steps L).getD j 0)
  | 176 => nI L.length
  | 177 => nI ((lw_steps (L.take j)).length + (L.getD j ([], [])).1.length)
  | 178 => nI (lw_steps (L.take (j + 1))).length
  | 184 => I 11 j
  | 185 => I 13 j
  | 186 => I 14 j
  | 187 => I 15 j
  | 188 => I 60 j
  | 189 => I 61 j
  | 190 => if I (23 + 2 * j) 1 = -2 then -1 else if I (23 + 2 * j) 1 = -1 then I (23 + 2 * j) 3 else -2 - I (23 + 2 * j) 1
  | 191 => I (23 + 2 * j) 2
  | _ => 0
def kg (L : List (List Int32 × List Int32)) (M : ro_Mm) : ro_Mm := (ro_sh, fun c j => if c < 163 then M.2.1 c j else kg_I L M.2.1 c j, fun c j => if c < 163 then M.2.2.1 c j else M.2.2.1 (24 + 2 * (j / 60)) (j % 60), M.2.2.2)
theorem kg_lo {L : List (List Int32 × List Int32)} {M : ro_Mm} {c j : Nat} (h : c < 163) : (kg L M).2.1 c j = M.2.1 c j := if_pos h
theorem kg_hi {L : List (List Int32 × List Int32)} {M : ro_Mm} {c j : Nat} (h : ¬ c < 163) : (kg L M).2.1 c j = kg_I L M.2.1 c j := if_neg h
theorem kg_lay {L : List (List Int32 × List Int32)} {M : ro_Mm} (h : kv_q M) : ro_lay (kg L M) := ⟨rfl, h.2.1⟩
set_option maxRecDepth 4000 in
theorem kg_inv {L : List (List Int32 × List Int32)} {M : ro_Mm} (h : kv L M) : ro_Inv2 (kg L M) := by
  obtain ⟨hq, ha, hb, hd, he, hf, hg, hh, hs⟩ := h
  have low : ∀ c j, c < 163 → (kg L M).2.1 c j = M.2.1 c j := fun c j h => kg_lo h
  have up : ∀ c j, ¬ c < 163 → (kg L M).2.1 c j = kg_I L M.2.1 c j := fun c j h => kg_hi h
  refine ⟨⟨kg_lay hq, ⟨?_, ?_, ?_, ?_, ?_, ?_, ?_, ?_⟩, ?_⟩, hq.2.2⟩
  · obtain ⟨a1, a2, a3, a4, a5, a6, a7, a8⟩ := ha
    unfold iv_a
    rw [up 163 1 (by decide), low 5 4 (by decide), up 168 0 (by decide), low 5 5 (by decide), up 168 1 (by decide), low 5 6 (by decide), up 168 2 (by decide), low 5 7 (by decide)]
    exact ⟨rfl, a1, a2, rfl, a3, a4, rfl, a5, a6, rfl, a7, a8⟩
  · intro i hi
    obtain ⟨b1, b2, b3, b4⟩ := hb i hi
    rw [up 164 i (by decide), low 7 i (by decide), up 165 i (by decide), low 8 i (by decide), up 166 i (by decide), low 9 i (by decide), up 167 i (by decide), low 10 i (by decide)]
    exact ⟨⟨rfl, b1⟩, ⟨rfl, b2⟩, ⟨rfl, b3⟩, ⟨rfl, b4⟩⟩
  · intro j hj
    rw [up 184 j (by decide), low 11 j (by decide)]
    rfl
  · obtain ⟨d1, d2, d3, d4⟩ := hd
    unfold iv_d
    rw [up 163 43 (by decide), low 5 10 (by decide), up 163 44 (by decide), low 5 11 (by decide), up 163 45 (by decide), low 5 12 (by decide)]
    refine ⟨⟨rfl, d1⟩, ⟨rfl, d2⟩, ⟨rfl, d3⟩, fun i hi => ?_, fun j hj => ?_⟩
    · rw [up 185 i (by decide), low 13 i (by decide), up 186 i (by decide), low 14 i (by decide)]
      exact ⟨⟨rfl, (d4 i hi).1⟩, ⟨rfl, (d4 i hi).2⟩⟩
    · rw [up 187 j (by decide), low 15 j (by decide)]
      rfl
  · unfold iv_e
    rw [up 163 14 (by decide), low 16 5 (by decide)]
    refine ⟨⟨rfl, he.1⟩, fun i hi => ?_⟩
    rw [up 173 i (by decide), low 17 i (by decide)]
    exact ⟨rfl, he.2 i hi⟩
  · obtain ⟨f1, f2, f3, f4, f5⟩ := hf
    refine ⟨L, f1, f2, ?_, fun k hk => ?_, fun k hk => ?_, f5, ?_, fun l hl => ?_, ?_⟩
    · rw [low 16 8 (by decide)]; exact f3
    · rw [low 19 k (by decide)]; exact f4 k hk
    · rw [up 174 k (by decide), up 175 k (by decide)]; exact ⟨rfl, rfl⟩
    · rw [up 176 0 (by decide)]; rfl
    · rw [up 177 l (by decide), up 178 l (by decide)]; exact ⟨rfl, rfl⟩
    · rw [up 163 26 (by decide)]; rfl
  · obtain ⟨⟨g1, g2, g3, g4, g5⟩, g6⟩ := hg
    unfold iv_g
    rw [up 163 7 (by decide), up 163 8 (by decide), low 54 4 (by decide), low 54 5 (by decide)]
    refine ⟨⟨rfl, rfl, g1, g2, g3, g4, g5⟩, fun i hi => ?_⟩
    obtain ⟨k1, k2, k3, k4⟩ := g6 i hi
    rw [up 170 i (by decide), up 169 i (by decide), up 171 i (by decide), up 172 i (by decide), low 55 i (by decide), low 56 i (by decide), low 57 i (by decide), low 58 i (by decide)]
    exact ⟨⟨rfl, k1⟩, ⟨rfl, k2⟩, ⟨rfl, k3⟩, ⟨rfl, k4⟩⟩
  · obtain ⟨h1, h2, h3⟩ := hh
    unfold iv_h
    rw [up 163 49 (by decide), up 163 51 (by decide), low 59 2 (by decide), low 59 3 (by decide)]
    refine ⟨⟨rfl, h1⟩, ⟨rfl, h2⟩, fun i hi => ?_, fun i hi => ?_⟩
    · rw [up 188 i (by decide), low 60 i (by decide)]
      exact ⟨rfl, h3 i hi⟩
    · rw [up 189 i (by decide), low 61 i (by decide)]
      rfl
  · intro s hs6
    have h1 := hs s hs6
    have l1 : 23 + 2 * s < 163 := by omega
    unfold iv_sh
    rw [up 190 s (by decide), up 191 s (by decide), low (23 + 2 * s) 1 l1, low (23 + 2 * s) 2 l1, low (23 + 2 * s) 3 l1, low 59 2 (by decide)]
    have e190 : kg_I L M.2.1 190 s = if M.2.1 (23 + 2 * s) 1 = -2 then -1 else if M.2.1 (23 + 2 * s) 1 = -1 then M.2.1 (23 + 2 * s) 3 else -2 - M.2.1 (23 + 2 * s) 1 := rfl
    rw [e190]
    rcases h1 with h1 | h1 | h1
    · exact Or.inl ⟨h1, by rw [if_pos h1]⟩
    · have n2 : ¬ M.2.1 (23 + 2 * s) 1 = -2 := by rw [h1.1]; decide
      refine Or.inr (Or.inl ⟨h1.1, by rw [if_neg n2, if_pos h1.1], ?_, ?_⟩) <;> rw [if_neg n2, if_pos h1.1]
      · exact h1.2.1
      · exact h1.2.2
    · have n2 : ¬ M.2.1 (23 + 2 * s) 1 = -2 := fun e => by have := h1.1; rw [e] at this; exact absurd this (by decide)
      have n1 : ¬ M.2.1 (23 + 2 * s) 1 = -1 := fun e => by have := h1.1; rw [e] at this; exact absurd this (by decide)
      refine Or.inr (Or.inr ⟨h1.1, h1.2.1, by rw [if_neg n2, if_neg n1], rfl, h1.2.2.1, h1.2.2.2, fun i hi => ?_⟩)
      have hi60 : i < 60 := by
        have b := Int32.le_iff_toInt_le.mp h1.2.2.2
        have e : (60 : Int32).toInt = 60 := by decide
        rw [e] at b
        have : i < (M.2.1 (23 + 2 * s) 2).toInt.toNat := hi
        omega
      show (if 192 < 163 then M.2.2.1 192 (60 * s + i) else M.2.2.1 (24 + 2 * ((60 * s + i) / 60)) ((60 * s + i) % 60)) = if 24 + 2 * s < 163 then M.2.2.1 (24 + 2 * s) i else _
      rw [if_neg (by decide), if_pos (by omega), show (60 * s + i) / 60 = s by omega, show (60 * s + i) % 60 = i by omega]
/-- the class's cells, seen alone -/
theorem kg_R {L : List (List Int32 × List Int32)} {M : ro_Mm} (h : kv_q M) : sh_R 159 M (kg L M) M := by
  refine ⟨rfl, rfl, h.1, fun c hc => ⟨funext fun j => (if_pos hc).symm, funext fun j => (if_pos hc).symm, rfl⟩, fun c hc => ⟨rfl, rfl, rfl⟩⟩
/-- a call of the class's -/
theorem kc_call {L : List (List Int32 × List Int32)} {X : ro_Sx} {d y : Nat} {as : List Value} {M : ro_Mm} {P : ro_Po} (hq : kv_q M) (hl : (ro_lim y).1 = 0) (h : ro_cwp X d y as (kg L M) P) : ro_cwp X d y as M (fun v M2 => ∃ G, P v G ∧ sh_R 159 M G M2) :=
  sh_cwp X 159 d y as M (kg L M) M P hl (kg_R hq) h
/-- the same to the next call: but for what a call works with -/
def kq (M M2 : ro_Mm) : Prop := M2.1 = M.1 ∧ (∀ c j, c < 163 → ro_lv c j = true → M2.2.1 c j = M.2.1 c j) ∧ (∀ c j, c < 163 → ro_lj c = true → M2.2.2.1 c j = M.2.2.1 c j) ∧ (∀ e, e ∈ ro_rt → M2.2.2.2 e.1 e.2.1 = .ref e.2.2) ∧ ro_lev M2 ∧
  ∀ c, ¬ c < 163 → M2.2.1 c = M.2.1 c ∧ M2.2.2.1 c = M.2.2.1 c ∧ M2.2.2.2 c = M.2.2.2 c
theorem kq_t {A B C : ro_Mm} (h : kq A B) (g : kq B C) : kq A C :=
  ⟨g.1.trans h.1, fun c j a b => (g.2.1 c j a b).trans (h.2.1 c j a b), fun c j a b => (g.2.2.1 c j a b).trans (h.2.2.1 c j a b), g.2.2.2.1, g.2.2.2.2.1, fun c hc => ⟨(g.2.2.2.2.2 c hc).1.trans (h.2.2.2.2.2 c hc).1, (g.2.2.2.2.2 c hc).2.1.trans (h.2.2.2.2.2 c hc).2.1, (g.2.2.2.2.2 c hc).2.2.trans (h.2.2.2.2.2 c hc).2.2⟩⟩
theorem kv_r_c {L : List (List Int32 × List Int32)} {I I' : Nat → Nat → Int32} (h : ∀ c j, c < 163 → ro_lv c j = true → I' c j = I c j) (g : kv_r L I) : kv_r L I' := by
  obtain ⟨ha, hb, hd, he, hf, hg, hh, hs⟩ := g
  refine ⟨?_, fun i hi => ?_, ?_, ?_, ?_, ?_, ?_, fun s hs6 => ?_⟩
  · unfold kv_a
    rw [h 5 4 (by decide) rfl, h 5 5 (by decide) rfl, h 5 6 (by decide) rfl, h 5 7 (by decide) rfl]
    exact ha
  · rw [h 7 i (by decide) rfl, h 8 i (by decide) rfl, h 9 i (by decide) rfl, h 10 i (by decide) rfl]
    exact hb i hi
  · obtain ⟨d1, d2, d3, d4⟩ := hd
    unfold kv_d
    rw [h 5 10 (by decide) rfl, h 5 11 (by decide) rfl, h 5 12 (by decide) rfl]
    refine ⟨d1, d2, d3, fun i hi => ?_⟩
    rw [h 13 i (by decide) rfl, h 14 i (by decide) rfl]
    exact d4 i hi
  · unfold kv_e
    rw [h 16 5 (by decide) rfl]
    refine ⟨he.1, fun i hi => ?_⟩
    rw [h 17 i (by decide) rfl]
    exact he.2 i hi
  · obtain ⟨f1, f2, f3, f4, f5⟩ := hf
    refine ⟨f1, f2, ?_, fun k hk => ?_, f5⟩
    · rw [h 16 8 (by decide) rfl]; exact f3
    · rw [h 19 k (by decide) rfl]; exact f4 k hk
  · unfold kv_g
    rw [h 54 4 (by decide) rfl, h 54 5 (by decide) rfl]
    refine ⟨hg.1, fun i hi => ?_⟩
    rw [h 55 i (by decide) rfl, h 56 i (by decide) rfl, h 57 i (by decide) rfl, h 58 i (by decide) rfl]
    exact hg.2 i hi
  · unfold kv_h
    rw [h 59 2 (by decide) rfl, h 59 3 (by decide) rfl]
    refine ⟨hh.1, hh.2.1, fun i hi => ?_⟩
    rw [h 60 i (by decide) rfl]
    exact hh.2.2 i hi
  · have h1 : ∀ j, I' (23 + 2 * s) j = I (23 + 2 * s) j := fun j => h _ j (by omega) (by unfold ro_lv; rw [ro_ls_i hs6 j]; exact Bool.or_true _)
    unfold kv_sh
    rw [h1, h1, h1, h 59 2 (by decide) rfl]
    exact hs s hs6
theorem kv_q_c {M M2 : ro_Mm} (h : kv_q M) (g : kq M M2) : kv_q M2 := ⟨by rw [g.1]; exact h.1, g.2.2.2.1, g.2.2.2.2.1⟩
theorem kv_c {L : List (List Int32 × List Int32)} {M M2 : ro_Mm} (h : kv L M) (g : kq M M2) : kv L M2 := ⟨kv_q_c h.1 g, kv_r_c g.2.1 h.2⟩
/-- a call that changes nothing between calls -/
theorem kq_of {L : List (List Int32 × List Int32)} {M G M2 : ro_Mm} (hG : ro_eqv (kg L M) G) (hl : ro_lev G) (hR : sh_R 159 M G M2) : kq M M2 := by
  have e : ∀ c, c < 163 → M2.2.1 c = G.2.1 c ∧ M2.2.2.1 c = G.2.2.1 c ∧ M2.2.2.2 c = G.2.2.2 c := hR.2.2.2.1
  refine ⟨hR.2.1, fun c j h1 h2 => ?_, fun c j h1 h2 => ?_, fun x hx => ?_, ?_, fun c hc => hR.2.2.2.2 c hc⟩
  · rw [(e c h1).1, hG.2.1 c j h2]
    exact kg_lo h1
  · rw [(e c h1).2.1, hG.2.2 c j h2]
    exact if_pos h1
  · have hb : x.1 < 163 := (show ∀ x, x ∈ ro_rt → x.1 < 163 by decide +kernel) x hx
    rw [(e x.1 hb).2.2]
    exact hG.1.2 x hx
  · unfold ro_lev
    rw [(e 62 (by decide)).2.2]
    exact hl
theorem kq_r {M : ro_Mm} (h : kv_q M) : kq M M := ⟨rfl, fun _ _ _ _ => rfl, fun _ _ _ _ => rfl, h.2.1, h.2.2, fun _ _ => ⟨rfl, rfl, rfl⟩⟩
