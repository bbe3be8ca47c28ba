/-! the law's text: what both parsers see and leave -/
section LAW1
/-- a byte as it is seen: q, or none of those that count -/
def pk (v q : Int32) : Prop := (v = q ∧ 0 ≤ q ∧ q ≤ 127) ∨ (q = -1 ∧ (v < 0 ∨ 127 < v))
theorem pk_e {v q c : Int32} (h : pk v q) (h0 : 0 ≤ c) (h1 : c ≤ 127) : v = c ↔ q = c := by
  rcases h with ⟨a, _, _⟩ | ⟨a, b⟩
  · rw [a]
  · constructor
    · intro e; rw [e] at b; exact absurd b (by grind)
    · intro e; rw [a] at e; rw [← e] at h0; exact absurd h0 (by decide)
theorem pk_49 {M : ro_Mm} {v q : Int32} (h : pk v q) : xf_49 M v = xf_49 M q := by
  rcases h with ⟨a, _, _⟩ | ⟨a, b⟩
  · rw [a]
  · rw [a]; unfold xf_49; grind
theorem pk_195 {M A : ro_Mm} {v q : Int32} (h : pk v q) : xf_195 A v 48 57 = xf_49 M q := by
  rcases h with ⟨a, _, _⟩ | ⟨a, b⟩
  · rw [a]; rfl
  · rw [a]; unfold xf_49 xf_195; grind
theorem pk_52 {M : ro_Mm} {v q : Int32} (h : pk v q) : xf_52 M v = xf_52 M q := by
  rcases h with ⟨a, _, _⟩ | ⟨a, b⟩
  · rw [a]
  · have h98 := (not_congr (pk_e (c := 98) (Or.inr ⟨a, b⟩) (by decide) (by decide))).mpr (by rw [a]; decide)
    have h99 := (not_congr (pk_e (c := 99) (Or.inr ⟨a, b⟩) (by decide) (by decide))).mpr (by rw [a]; decide)
    have h104 := (not_congr (pk_e (c := 104) (Or.inr ⟨a, b⟩) (by decide) (by decide))).mpr (by rw [a]; decide)
    have h110 := (not_congr (pk_e (c := 110) (Or.inr ⟨a, b⟩) (by decide) (by decide))).mpr (by rw [a]; decide)
    have h112 := (not_congr (pk_e (c := 112) (Or.inr ⟨a, b⟩) (by decide) (by decide))).mpr (by rw [a]; decide)
    have h119 := (not_congr (pk_e (c := 119) (Or.inr ⟨a, b⟩) (by decide) (by decide))).mpr (by rw [a]; decide)
    unfold xf_52
    rw [if_neg h98, if_neg h99, if_neg h104, if_neg h110, if_neg h112, if_neg h119, a]
    rfl
theorem pk_221 {M A : ro_Mm} {v q : Int32} (h : pk v q) : xf_221 A v = xf_52 M q := by
  rw [← pk_52 h]; rfl
theorem pk_54 {M : ro_Mm} {v q l : Int32} (h : pk v q) : xf_54 M l v = xf_54 M l q := by
  rcases h with ⟨a, _, _⟩ | ⟨a, b⟩
  · rw [a]
  · have n : ∀ c : Int32, 0 ≤ c → c ≤ 127 → ¬ v = c := fun c h0 h1 => (not_congr (pk_e (c := c) (Or.inr ⟨a, b⟩) h0 h1)).mpr (fun e => by rw [a] at e; rw [← e] at h0; exact absurd h0 (by decide))
    unfold xf_54
    rw [if_neg (n 37 (by decide) (by decide)), if_neg (n 38 (by decide) (by decide)), if_neg (n 42 (by decide) (by decide)), if_neg (n 43 (by decide) (by decide)), if_neg (n 45 (by decide) (by decide)), if_neg (n 47 (by decide) (by decide)), if_neg (n 60 (by decide) (by decide)), if_neg (n 61 (by decide) (by decide)), if_neg (n 62 (by decide) (by decide)), if_neg (n 124 (by decide) (by decide)), a]
    rfl
/-- names -/
theorem pk_nm {M : ro_Mm} {q : Int32} (h : ¬ xf_52 M q < 0) : ∃ k, k < 6 ∧ xf_52 M q = nI k ∧ lw_nm (-q) = some k ∧ lw_act (-q) = 2 ∧ lw_with (-q) = nI k ∧ ¬ 0 ≤ -q ∧ 0 ≤ q ∧ q ≤ 127 := by
  unfold xf_52 at h ⊢
  by_cases c1 : q = 98
  · subst c1; exact ⟨1, by decide, rfl, rfl, rfl, rfl, by decide, by decide, by decide⟩
  by_cases c2 : q = 99
  · subst c2; exact ⟨3, by decide, rfl, rfl, rfl, rfl, by decide, by decide, by decide⟩
  by_cases c3 : q = 104
  · subst c3; exact ⟨4, by decide, rfl, rfl, rfl, rfl, by decide, by decide, by decide⟩
  by_cases c4 : q = 110
  · subst c4; exact ⟨5, by decide, rfl, rfl, rfl, rfl, by decide, by decide, by decide⟩
  by_cases c5 : q = 112
  · subst c5; exact ⟨0, by decide, rfl, rfl, rfl, rfl, by decide, by decide, by decide⟩
  by_cases c6 : q = 119
  · subst c6; exact ⟨2, by decide, rfl, rfl, rfl, rfl, by decide, by decide, by decide⟩
  rw [if_neg c1, if_neg c2, if_neg c3, if_neg c4, if_neg c5, if_neg c6] at h
  exact absurd (by decide) h
/-- what joins two -/
theorem pk_op {M : ro_Mm} {l q : Int32} (h : xf_54 M l q = true) : lw_act (-q) = q ∧ lw_with (-q) = 0 ∧ vp_nar .byte (q.toInt8.toInt32) = q ∧ ¬ 0 ≤ -q ∧ lw_nm (-q) = none ∧ ¬ -q = -33 ∧ ¬ -q = -126 ∧ (∀ x y, ∃ v, lw_two (-q) x y = some v) ∧ 0 ≤ q ∧ q ≤ 127 := by
  unfold xf_54 at h
  by_cases c1 : q = 37
  · subst c1; exact ⟨rfl, rfl, rfl, by decide, rfl, by decide, by decide, fun x y => ⟨_, rfl⟩, by decide, by decide⟩
  by_cases c2 : q = 38
  · subst c2; exact ⟨rfl, rfl, rfl, by decide, rfl, by decide, by decide, fun x y => ⟨_, rfl⟩, by decide, by decide⟩
  by_cases c3 : q = 42
  · subst c3; exact ⟨rfl, rfl, rfl, by decide, rfl, by decide, by decide, fun x y => ⟨_, rfl⟩, by decide, by decide⟩
  by_cases c4 : q = 43
  · subst c4; exact ⟨rfl, rfl, rfl, by decide, rfl, by decide, by decide, fun x y => ⟨_, rfl⟩, by decide, by decide⟩
  by_cases c5 : q = 45
  · subst c5; exact ⟨rfl, rfl, rfl, by decide, rfl, by decide, by decide, fun x y => ⟨_, rfl⟩, by decide, by decide⟩
  by_cases c6 : q = 47
  · subst c6; exact ⟨rfl, rfl, rfl, by decide, rfl, by decide, by decide, fun x y => ⟨_, rfl⟩, by decide, by decide⟩
  by_cases c7 : q = 60
  · subst c7; exact ⟨rfl, rfl, rfl, by decide, rfl, by decide, by decide, fun x y => ⟨_, rfl⟩, by decide, by decide⟩
  by_cases c8 : q = 61
  · subst c8; exact ⟨rfl, rfl, rfl, by decide, rfl, by decide, by decide, fun x y => ⟨_, rfl⟩, by decide, by decide⟩
  by_cases c9 : q = 62
  · subst c9; exact ⟨rfl, rfl, rfl, by decide, rfl, by decide, by decide, fun x y => ⟨_, rfl⟩, by decide, by decide⟩
  by_cases c10 : q = 124
  · subst c10; exact ⟨rfl, rfl, rfl, by decide, rfl, by decide, by decide, fun x y => ⟨_, rfl⟩, by decide, by decide⟩
  rw [if_neg c1, if_neg c2, if_neg c3, if_neg c4, if_neg c5, if_neg c6, if_neg c7, if_neg c8, if_neg c9, if_neg c10] at h
  exact Bool.noConfusion h
/-- words that come to a value, put together -/
theorem wf_num {w : Int32} (h : 0 ≤ w) : lw_wf [w] := fun f => ⟨w, by rw [lw_run]; unfold lw_one; rw [if_pos h]; rfl⟩
theorem wf_nm {w : Int32} {k : Nat} (h : ¬ 0 ≤ w) (e : lw_nm w = some k) : lw_wf [w] := fun f => ⟨f k, by rw [lw_run]; unfold lw_one; rw [if_neg h, e]; rfl⟩
theorem wf_not {ws : List Int32} (h : lw_wf ws) : lw_wf (ws ++ [-33]) := fun f => by
  obtain ⟨v, e⟩ := h f
  exact ⟨if v = 0 then 1 else 0, by rw [lw_run_app, e]; rfl⟩
theorem wf_neg {ws : List Int32} (h : lw_wf ws) : lw_wf (ws ++ [-126]) := fun f => by
  obtain ⟨v, e⟩ := h f
  exact ⟨-v, by rw [lw_run_app, e]; rfl⟩
theorem wf_two {a b : List Int32} {w : Int32} (ha : lw_wf a) (hb : lw_wf b) (h0 : ¬ 0 ≤ w) (h1 : lw_nm w = none) (h2 : ¬ w = -33) (h3 : ¬ w = -126) (h4 : ∀ x y, ∃ v, lw_two w x y = some v) : lw_wf (a ++ b ++ [w]) := fun f => by
  obtain ⟨x, ex⟩ := ha f
  obtain ⟨y, ey⟩ := hb f
  obtain ⟨v, ev⟩ := h4 x y
  have e2 : lw_run f b [x] = some [y, x] := lw_run_b (t := [x]) ey
  refine ⟨v, ?_⟩
  rw [lw_run_app, lw_run_app, ex]
  show (lw_run f b [x]).bind (lw_run f [w]) = some [v]
  rw [e2]
  show lw_run f [w] [y, x] = some [v]
  rw [lw_run]
  unfold lw_one
  rw [if_neg h0, h1]
  show (if w = -33 then _ else if w = -126 then _ else (lw_two w x y).map (fun v => [v])).bind _ = _
  rw [if_neg h2, if_neg h3, ev]
  rfl
theorem wf_pos {ws : List Int32} (h : lw_wf ws) : 0 < ws.length := by
  cases ws with
  | nil => obtain ⟨v, e⟩ := h (fun _ => 0); exact absurd e (by rw [lw_run]; intro q; cases q)
  | cons a b => exact Nat.succ_pos _
section ST
def ps_A (z : Nat) (t : Nat → Int32) (A : ro_Mm) (a k : Nat) : Prop := A.2.1 16 5 = nI z ∧ (∀ i, i < z → A.2.1 17 i = t i) ∧ A.2.1 16 6 = nI a ∧ A.2.1 16 7 = nI k
def ps_B (bz z : Nat) (s : Nat → Int32) (B : ro_Mm) (a k o : Nat) : Prop := B.2.1 163 14 = nI z ∧ (∀ i, i < z → B.2.1 173 i = s i) ∧ B.2.1 163 15 = nI a ∧ B.2.1 163 16 = -1 ∧ B.2.1 163 17 = nI o ∧ (130 : Int32) + B.2.1 163 18 = nI (bz + k)
end ST
def pf_A (A B : ro_Mm) : Prop := B.1 = A.1 ∧ B.2.2 = A.2.2 ∧ ∀ c j, ¬ (c = 16 ∧ (j = 6 ∨ j = 7)) → c ≠ 18 → B.2.1 c j = A.2.1 c j
def pf_B (A B : ro_Mm) : Prop := B.1 = A.1 ∧ B.2.2 = A.2.2 ∧ ∀ c j, ¬ (c = 163 ∧ 15 ≤ j ∧ j ≤ 18) → ¬ ((c = 174 ∨ c = 175) ∧ 130 ≤ j) → B.2.1 c j = A.2.1 c j
theorem pf_A_r {A : ro_Mm} : pf_A A A := ⟨rfl, rfl, fun _ _ _ _ => rfl⟩
theorem pf_B_r {A : ro_Mm} : pf_B A A := ⟨rfl, rfl, fun _ _ _ _ => rfl⟩
theorem pf_A_t {A B C : ro_Mm} (h : pf_A A B) (g : pf_A B C) : pf_A A C := ⟨g.1.trans h.1, g.2.1.trans h.2.1, fun c j n1 n2 => (g.2.2 c j n1 n2).trans (h.2.2 c j n1 n2)⟩
theorem pf_B_t {A B C : ro_Mm} (h : pf_B A B) (g : pf_B B C) : pf_B A C := ⟨g.1.trans h.1, g.2.1.trans h.2.1, fun c j n1 n2 => (g.2.2 c j n1 n2).trans (h.2.2 c j n1 n2)⟩
/-- words kept below k -/
def pl (bz : Nat) (A A' B B' : ro_Mm) (k : Nat) : Prop := ∀ j, j < k → A'.2.1 18 j = A.2.1 18 j ∧ B'.2.1 174 (bz + j) = B.2.1 174 (bz + j) ∧ B'.2.1 175 (bz + j) = B.2.1 175 (bz + j)
def pw (bz : Nat) (A B : ro_Mm) (k : Nat) (ws : List Int32) : Prop := ∀ i, i < ws.length → A.2.1 18 (k + i) = ws.getD i 0 ∧ B.2.1 174 (bz + (k + i)) = lw_act (ws.getD i 0) ∧ B.2.1 175 (bz + (k + i)) = lw_with (ws.getD i 0)
theorem pl_r {bz : Nat} {A B : ro_Mm} {k : Nat} : pl bz A A B B k := fun _ _ => ⟨rfl, rfl, rfl⟩
theorem pl_t {bz : Nat} {A A' A'' B B' B'' : ro_Mm} {k k2 : Nat} (h : pl bz A A' B B' k) (g : pl bz A' A'' B' B'' k2) (hk : k ≤ k2) : pl bz A A'' B B'' k := fun j hj => by
  obtain ⟨a1, a2, a3⟩ := h j hj
  obtain ⟨b1, b2, b3⟩ := g j (by omega)
  exact ⟨b1.trans a1, b2.trans a2, b3.trans a3⟩
theorem pw_nil {bz : Nat} {A B : ro_Mm} {k : Nat} : pw bz A B k [] := fun i hi => absurd hi (Nat.not_lt_zero _)
theorem pw_l {bz : Nat} {A A' B B' : ro_Mm} {k k2 : Nat} {ws : List Int32} (h : pw bz A B k ws) (g : pl bz A A' B B' k2) (hk : k + ws.length ≤ k2) : pw bz A' B' k ws := fun i hi => by
  obtain ⟨a1, a2, a3⟩ := h i hi
  obtain ⟨b1, b2, b3⟩ := g (k + i) (by omega)
  exact ⟨b1.trans a1, b2.trans a2, b3.trans a3⟩
theorem pw_app {bz : Nat} {A B : ro_Mm} {k : Nat} {a b : List Int32} (h : pw bz A B k a) (g : pw bz A B (k + a.length) b) : pw bz A B k (a ++ b) := fun i hi => by
  rw [List.length_append] at hi
  by_cases c : i < a.length
  · have e : (a ++ b).getD i 0 = a.getD i 0 := by rw [List.getD_eq_getElem?_getD, List.getD_eq_getElem?_getD, List.getElem?_append_left c]
    rw [e]; exact h i c
  · have e : (a ++ b).getD i 0 = b.getD (i - a.length) 0 := by rw [List.getD_eq_getElem?_getD, List.getD_eq_getElem?_getD, List.getElem?_append_right (by omega)]
    rw [e]
    have := g (i - a.length) (by omega)
    rw [show k + a.length + (i - a.length) = k + i by omega] at this
    exact this
/-- one word more, in both -/
theorem ps_add {bz z : Nat} {t s : Nat → Int32} {A B : ro_Mm} {a k o : Nat} (hA : ps_A z t A a k) (hB : ps_B bz z s B a k o) (hk : k ≤ 120 ∧ bz ≤ 130 ∧ 130 ≤ bz + k) {w v1 v2 : Int32} (e1 : vp_nar .byte (v1.toInt8.toInt32) = lw_act w) (e2 : v2 = lw_with w) :
    ps_A z t (xm_51 A w) a (k + 1) ∧ ps_B bz z s (xm_222 B v1 v2) a (k + 1) o ∧ pf_A A (xm_51 A w) ∧ pf_B B (xm_222 B v1 v2) ∧ pl bz A (xm_51 A w) B (xm_222 B v1 v2) k ∧ pw bz (xm_51 A w) (xm_222 B v1 v2) k [w] ∧ xp_222 B v1 v2 := by
  obtain ⟨a1, a2, a3, a4⟩ := hA
  obtain ⟨b1, b2, b3, b4, b5, b6⟩ := hB
  have c1 : ¬ nI k < 0 := nI_pos (by omega)
  have c2 : ¬ (121 : Int32) ≤ nI k := nI_ge (b := 121) (by omega) (by omega)
  have ek : (nI k).toNatClampNeg = k := nI_clamp (by omega)
  have e51 : xm_51 A w = ro_sI (ro_sI A 18 k w) 16 7 (nI (k + 1)) := by
    unfold xm_51; rw [a4, if_neg c1, if_neg c2, ek, nI_1]
  have ek2 : (nI (bz + k)).toNatClampNeg = bz + k := nI_clamp (by omega)
  have e222 : xm_222 B v1 v2 = ro_sI (ro_sI (ro_sI B 174 (bz + k) (lw_act w)) 175 (bz + k) (lw_with w)) 163 18 (B.2.1 163 18 + 1) := by
    unfold xm_222; rw [b6, ek2, e1, e2]
  have p222 : xp_222 B v1 v2 := by
    unfold xp_222; rw [b6]; exact ⟨ro_vn (by omega) (by omega), ro_vn (by omega) (by omega), trivial⟩
  rw [e51, e222]
  refine ⟨⟨?_, fun i hi => ?_, ?_, ?_⟩, ⟨?_, fun i hi => ?_, ?_, ?_, ?_, ?_⟩, ⟨rfl, rfl, fun c j n1 n2 => ?_⟩, ⟨rfl, rfl, fun c j n1 n2 => ?_⟩, fun j hj => ⟨?_, ?_, ?_⟩, fun i hi => ?_, p222⟩
  · rw [ro_rd_s, if_neg (by omega), ro_sI_ne (by decide)]; exact a1
  · rw [ro_sI_ne (by decide), ro_sI_ne (by decide)]; exact a2 i hi
  · rw [ro_rd_s, if_neg (by omega), ro_sI_ne (by decide)]; exact a3
  · rw [ro_rd_s, if_pos ⟨rfl, rfl⟩]
  · rw [ro_rd_s, if_neg (by omega), ro_sI_ne (by decide), ro_sI_ne (by decide)]; exact b1
  · rw [ro_sI_ne (by decide), ro_sI_ne (by decide), ro_sI_ne (by decide)]; exact b2 i hi
  · rw [ro_rd_s, if_neg (by omega), ro_sI_ne (by decide), ro_sI_ne (by decide)]; exact b3
  · rw [ro_rd_s, if_neg (by omega), ro_sI_ne (by decide), ro_sI_ne (by decide)]; exact b4
  · rw [ro_rd_s, if_neg (by omega), ro_sI_ne (by decide), ro_sI_ne (by decide)]; exact b5
  · rw [ro_rd_s, if_pos ⟨rfl, rfl⟩, ← Int32.add_assoc, b6]; exact nI_1 _
  · rw [ro_rd_s, if_neg (by omega), ro_rd_s, if_neg (by omega)]
  · rw [ro_rd_s, if_neg (by omega), ro_rd_s, if_neg (by omega), ro_rd_s, if_neg (by omega)]
  · rw [ro_sI_ne (by decide), ro_rd_s, if_neg (by omega)]
  · rw [ro_sI_ne (by decide), ro_sI_ne (by decide), ro_rd_s, if_neg (by omega)]
  · rw [ro_sI_ne (by decide), ro_rd_s, if_neg (by omega), ro_sI_ne (by decide)]
  · have e : i = 0 := by have : i < 1 := hi; omega
    subst e
    refine ⟨?_, ?_, ?_⟩
    · rw [ro_sI_ne (by decide), ro_rd_s, if_pos ⟨rfl, rfl⟩]; rfl
    · rw [ro_sI_ne (by decide), ro_sI_ne (by decide), ro_rd_s, if_pos ⟨rfl, rfl⟩]; rfl
    · rw [ro_sI_ne (by decide), ro_rd_s, if_pos ⟨rfl, rfl⟩]; rfl
/-- one byte on, in both -/
theorem ps_nA {z : Nat} {t : Nat → Int32} {A : ro_Mm} {a k : Nat} (hA : ps_A z t A a k) : ps_A z t (ro_sI A 16 6 (A.2.1 16 6 + 1)) (a + 1) k ∧ pf_A A (ro_sI A 16 6 (A.2.1 16 6 + 1)) ∧ ∀ j, (ro_sI A 16 6 (A.2.1 16 6 + 1)).2.1 18 j = A.2.1 18 j := by
  obtain ⟨a1, a2, a3, a4⟩ := hA
  refine ⟨⟨?_, fun i hi => ?_, ?_, ?_⟩, ⟨rfl, rfl, fun c j n1 n2 => ?_⟩, fun j => ro_sI_ne (by decide)⟩
  · rw [ro_rd_s, if_neg (by omega)]; exact a1
  · rw [ro_sI_ne (by decide)]; exact a2 i hi
  · rw [ro_rd_s, if_pos ⟨rfl, rfl⟩, a3, nI_1]
  · rw [ro_rd_s, if_neg (by omega)]; exact a4
  · rw [ro_rd_s, if_neg (by omega)]
theorem ps_nB {bz z : Nat} {s : Nat → Int32} {B : ro_Mm} {a k o : Nat} (hB : ps_B bz z s B a k o) : ps_B bz z s (ro_sI B 163 15 (B.2.1 163 15 + 1)) (a + 1) k o ∧ pf_B B (ro_sI B 163 15 (B.2.1 163 15 + 1)) ∧ ∀ c j, c ≠ 163 → (ro_sI B 163 15 (B.2.1 163 15 + 1)).2.1 c j = B.2.1 c j := by
  obtain ⟨b1, b2, b3, b4, b5, b6⟩ := hB
  refine ⟨⟨?_, fun i hi => ?_, ?_, ?_, ?_, ?_⟩, ⟨rfl, rfl, fun c j n1 n2 => ?_⟩, fun c j hc => ro_sI_ne hc⟩
  · rw [ro_rd_s, if_neg (by omega)]; exact b1
  · rw [ro_sI_ne (by decide)]; exact b2 i hi
  · rw [ro_rd_s, if_pos ⟨rfl, rfl⟩, b3, nI_1]
  · rw [ro_rd_s, if_neg (by omega)]; exact b4
  · rw [ro_rd_s, if_neg (by omega)]; exact b5
  · rw [ro_rd_s, if_neg (by omega)]; exact b6
  · rw [ro_rd_s, if_neg (by omega)]
/-- writing to what is spoilt anyway -/
theorem pf_51 {A : ro_Mm} {w : Int32} : pf_A A (xm_51 A w) ∧ (xm_51 A w).2.1 16 6 = A.2.1 16 6 := by
  unfold xm_51
  by_cases c1 : A.2.1 16 7 < 0
  · rw [if_pos c1]; exact ⟨pf_A_r, rfl⟩
  · rw [if_neg c1]
    by_cases c2 : (121 : Int32) ≤ A.2.1 16 7
    · rw [if_pos c2]; exact ⟨pf_A_r, rfl⟩
    · rw [if_neg c2]
      refine ⟨⟨rfl, rfl, fun c j n1 n2 => ?_⟩, ?_⟩
      · rw [ro_rd_s, if_neg (by omega), ro_rd_s, if_neg (by omega)]
      · rw [ro_rd_s, if_neg (by omega), ro_sI_ne (by decide)]
theorem pf_222 {bz : Nat} {B : ro_Mm} {k : Nat} (h : (130 : Int32) + B.2.1 163 18 = nI (bz + k)) (hk : bz + k < 260 ∧ 130 ≤ bz + k) {v1 v2 : Int32} : pf_B B (xm_222 B v1 v2) ∧ xp_222 B v1 v2 ∧ (130 : Int32) + (xm_222 B v1 v2).2.1 163 18 = nI (bz + (k + 1)) ∧ ∀ j, j ≠ 18 → (xm_222 B v1 v2).2.1 163 j = B.2.1 163 j := by
  have ek2 : (nI (bz + k)).toNatClampNeg = bz + k := nI_clamp (by omega)
  have e : xm_222 B v1 v2 = ro_sI (ro_sI (ro_sI B 174 (bz + k) (vp_nar .byte (v1.toInt8.toInt32))) 175 (bz + k) v2) 163 18 (B.2.1 163 18 + 1) := by
    unfold xm_222; rw [h, ek2]
  have p : xp_222 B v1 v2 := by
    unfold xp_222; rw [h]; exact ⟨ro_vn (by omega) (by omega), ro_vn (by omega) (by omega), trivial⟩
  rw [e]
  refine ⟨⟨rfl, rfl, fun c j n1 n2 => ?_⟩, p, ?_, fun j hj => ?_⟩
  · rw [ro_rd_s, if_neg (by omega), ro_rd_s, if_neg (by omega), ro_rd_s, if_neg (by omega)]
  · rw [ro_rd_s, if_pos ⟨rfl, rfl⟩, ← Int32.add_assoc, h]; exact nI_1 _
  · rw [ro_rd_s, if_neg (by omega), ro_sI_ne (by decide), ro_sI_ne (by decide)]
end LAW1

