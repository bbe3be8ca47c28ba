/-! pair act (by program, wip/whole/gen65.py) -/
section ACT2
variable {X : ro_Sx}
def ac_b (c j : Nat) : Bool := c == 61 || (c == 189 || ((c == 59 && j == 3) || (c == 163 && j == 51)))
def ac_I (I I' : Nat → Nat → Int32) (c j : Nat) : Int32 := bif ac_b c j then I c j else I' c j
theorem ac_inv {M C : ro_Mm} (h : ro_Inv M) (hL : ro_lay C) (hJ : C.2.2.1 = M.2.2.1) (hI : ∀ c j, c ≠ 61 → c ≠ 189 → ¬ (c = 59 ∧ (j = 3 ∨ j = 4 ∨ j = 5)) → ¬ (c = 163 ∧ j = 51) → C.2.1 c j = M.2.1 c j) (h1 : C.2.1 163 51 = C.2.1 59 3) (h2 : 0 ≤ C.2.1 59 3) (h3 : ∀ i, i < 24 → C.2.1 189 i = C.2.1 61 i) : ro_Inv C := by
  have g : iv_r (ac_I M.2.1 C.2.1) := by
    refine iv_r_c (fun c j e => ?_) h.2.1
    unfold ac_I
    cases hb : ac_b c j with
    | true => rfl
    | false =>
      have e3 : c ≠ 61 ∧ c ≠ 189 ∧ ¬ (c = 59 ∧ j = 3) ∧ ¬ (c = 163 ∧ j = 51) := by
        unfold ac_b at hb
        simp only [Bool.or_eq_false_iff, Bool.and_eq_false_iff, beq_eq_false_iff_ne] at hb
        omega
      have e4 : ¬ (c = 59 ∧ (j = 3 ∨ j = 4 ∨ j = 5)) := by
        rintro ⟨z1, z2 | z2 | z2⟩
        · exact e3.2.2.1 ⟨z1, z2⟩
        · rw [z1, z2] at e; exact Bool.noConfusion e
        · rw [z1, z2] at e; exact Bool.noConfusion e
      exact hI c j e3.1 e3.2.1 e4 e3.2.2.2
  obtain ⟨a1, a2, a3, a4, a5, a6, a7, a8⟩ := g
  obtain ⟨b1, b2, b3, b4⟩ := h.2.1.2.2.2.2.2.2.2
  refine ⟨hL, ⟨a1, a2, a3, a4, a5, a6, a7, ?_⟩, ?_⟩
  · refine ⟨a8.1, ⟨h1, h2⟩, a8.2.2.1, h3⟩
  · refine iv_s_c (fun c j e => ?_) (fun c j _ => by rw [hJ]) h.2.2
    have n : ∀ d, ro_ls d j = false → c ≠ d := fun d hd e2 => by rw [e2, hd] at e; exact Bool.noConfusion e
    refine hI c j (n 61 rfl) (n 189 rfl) ?_ (fun q => n 163 rfl q.1)
    rintro ⟨z1, z2 | z2 | z2⟩ <;> rw [z1, z2] at e <;> exact Bool.noConfusion e
/-- traces, as both keep them -/
theorem ac_one {A B : ro_Mm} {b : Int32} {c : Nat} (h1 : A.2.1 59 3 = nI c) (h2 : B.2.1 163 51 = nI c) (hc : c ≤ 100) (h3 : ∀ i, i < 24 → B.2.1 189 i = A.2.1 61 i) : (xm_170 A b).2.1 59 3 = nI (c + 1) ∧ (xm_287 B b).2.1 163 51 = nI (c + 1) ∧ ∀ i, i < 24 → (xm_287 B b).2.1 189 i = (xm_170 A b).2.1 61 i := by
  have n0 : ¬ nI c < 0 := nI_pos (by omega)
  have ec : (nI c).toNatClampNeg = c := nI_clamp (by omega)
  unfold xm_170 xm_287
  rw [h1, h2, if_neg n0, nI_1, ec]
  by_cases z : (24 : Int32) ≤ nI c
  · rw [if_pos z, if_pos z]
    refine ⟨by rw [ro_rd_s, if_pos ⟨rfl, rfl⟩], by rw [ro_rd_s, if_pos ⟨rfl, rfl⟩], fun i hi => ?_⟩
    rw [ro_sI_ne (by decide), ro_sI_ne (by decide)]; exact h3 i hi
  · rw [if_neg z, if_neg z]
    refine ⟨by rw [ro_rd_s, if_pos ⟨rfl, rfl⟩], by rw [ro_rd_s, if_pos ⟨rfl, rfl⟩], fun i hi => ?_⟩
    rw [ro_sI_ne (show (189 : Nat) ≠ 163 by decide), ro_sI_ne (show (61 : Nat) ≠ 59 by decide), ro_rd_s, ro_rd_s]
    by_cases e : i = c
    · rw [if_pos ⟨rfl, e⟩, if_pos ⟨rfl, e⟩]
    · rw [if_neg (fun q => e q.2), if_neg (fun q => e q.2)]; exact h3 i hi
theorem ac_both : ∀ (l : List Int32) (A B : ro_Mm) (c : Nat), A.2.1 59 3 = nI c → B.2.1 163 51 = nI c → c + l.length ≤ 100 → (∀ i, i < 24 → B.2.1 189 i = A.2.1 61 i) →
    (l.foldl xm_170 A).2.1 59 3 = nI (c + l.length) ∧ (l.foldl xm_287 B).2.1 163 51 = nI (c + l.length) ∧ ∀ i, i < 24 → (l.foldl xm_287 B).2.1 189 i = (l.foldl xm_170 A).2.1 61 i
  | [], _, _, _, h1, h2, _, h3 => ⟨h1, h2, h3⟩
  | b :: l, A, B, c, h1, h2, hc, h3 => by
    simp only [List.length_cons] at hc ⊢
    obtain ⟨t1, t2, t3⟩ := ac_one (b := b) h1 h2 (by omega) h3
    rw [show c + (l.length + 1) = c + 1 + l.length by omega]
    exact ac_both l (xm_170 A b) (xm_287 B b) (c + 1) t1 t2 (by omega) t3
theorem ac_o : ∀ (l : List Int32) (A : ro_Mm) {c j : Nat}, c ≠ 61 → ¬ (c = 59 ∧ j = 3) → (l.foldl xm_170 A).2.1 c j = A.2.1 c j ∧ (l.foldl xm_170 A).2.2.1 = A.2.2.1
  | [], _, _, _, _, _ => ⟨rfl, rfl⟩
  | b :: l, A, c, j, h1, h2 => by
    obtain ⟨t1, t2⟩ := ac_o l (xm_170 A b) h1 h2
    refine ⟨t1.trans ?_, t2.trans (funext fun a => funext fun k => xwJ_170)⟩
    by_cases e : c = 59
    · subst e; exact ac_170 (fun q => h2 ⟨rfl, q⟩)
    · exact xwI_170 e h1
theorem ac_p : ∀ (l : List Int32) (A : ro_Mm) {c j : Nat}, c ≠ 189 → ¬ (c = 163 ∧ j = 51) → (l.foldl xm_287 A).2.1 c j = A.2.1 c j ∧ (l.foldl xm_287 A).2.2.1 = A.2.2.1
  | [], _, _, _, _, _ => ⟨rfl, rfl⟩
  | b :: l, A, c, j, h1, h2 => by
    obtain ⟨t1, t2⟩ := ac_p l (xm_287 A b) h1 h2
    refine ⟨t1.trans ?_, t2.trans (funext fun a => funext fun k => xwJ_287)⟩
    unfold xm_287
    by_cases z : (24 : Int32) ≤ A.2.1 163 51
    · rw [if_pos z, ro_rd_s, if_neg h2]
    · rw [if_neg z, ro_rd_s, if_neg h2, ro_sI_ne h1]
theorem rc_12 : ∃ m, rc_N = m + 12 := ⟨88, rc_N_eq⟩
/-- what an act of a body of kind sk comes to, in both -/
theorem ac_fin {s sk a : Int32} (hk : 0 ≤ sk ∧ sk ≤ 7) (ha : 0 ≤ a ∧ a ≤ 3) (hs : vp_in s 50) : ∃ (f : Int32 → Int32) (l : List Int32), l.length ≤ 20 ∧ ac_Sp s sk rc_N sk a 0 f l ∧
    ∀ (B : ro_Mm) (x : Int32), B.2.1 188 s.toNatClampNeg = sk → B.2.1 163 51 = nI 0 →
      (if a = 0 then xf_285 B s x else if a = 1 then xf_290 B s x else if a = 2 then xf_293 B s x else xf_296 B s x) = f x ∧
      (if a = 0 then xm_285 B s x else if a = 1 then xm_290 B s x else if a = 2 then xm_293 B s x else xm_296 B s x) = l.foldl xm_287 B ∧
      ((a = 0 → xp_285 B s x) ∧ (¬ a = 0 → ((a = 1 → xp_290 B s x) ∧ (¬ a = 1 → ((a = 2 → xp_293 B s x) ∧ (¬ a = 2 → xp_296 B s x)))))) := by
  obtain ⟨m, hm⟩ := rc_12
  have ha4 : a = 0 ∨ a = 1 ∨ a = 2 ∨ a = 3 := by grind
  rw [hm]
  rcases ro_eight hk with e | e | e | e | e | e | e | e <;> subst e
  · rcases ha4 with e | e | e | e <;> subst e
    · refine ⟨fun x => (x + s), [1], by decide, ac_c_0_0, fun B x h1 h2 => ?_⟩
      obtain ⟨t1, t2, t3⟩ := rk_0_0 (x := x) h1 hs (rk_all _ _ 0 h2 (by decide))
      exact ⟨by rw [if_pos rfl]; exact t1, by rw [if_pos rfl]; exact t2, ⟨fun _ => t3, fun y => absurd rfl y⟩⟩
    · refine ⟨fun x => ((x + s) * 2), [10, 1], by decide, ac_c_0_1, fun B x h1 h2 => ?_⟩
      obtain ⟨t1, t2, t3⟩ := rk_0_1 (x := x) h1 hs (rk_all _ _ 0 h2 (by decide))
      exact ⟨by rw [if_neg (by decide), if_pos rfl]; exact t1, by rw [if_neg (by decide), if_pos rfl]; exact t2, ⟨fun y => absurd y (by decide), fun _ => ⟨fun _ => t3, fun y => absurd rfl y⟩⟩⟩
    · refine ⟨fun x => (x ^^^ s), [11], by decide, ac_c_0_2, fun B x h1 h2 => ?_⟩
      obtain ⟨t1, t2, t3⟩ := rk_0_2 (x := x) h1 hs (rk_all _ _ 0 h2 (by decide))
      exact ⟨by rw [if_neg (by decide), if_neg (by decide), if_pos rfl]; exact t1, by rw [if_neg (by decide), if_neg (by decide), if_pos rfl]; exact t2, ⟨fun y => absurd y (by decide), fun _ => ⟨fun y => absurd y (by decide), fun _ => ⟨fun _ => t3, fun y => absurd rfl y⟩⟩⟩⟩
    · refine ⟨fun x => (((x + s) * 2) - (1 ^^^ s)), [2, 10, 1, 11], by decide, ac_c_0_3, fun B x h1 h2 => ?_⟩
      obtain ⟨t1, t2, t3⟩ := rk_0_3 (x := x) h1 hs (rk_all _ _ 0 h2 (by decide))
      exact ⟨by rw [if_neg (by decide), if_neg (by decide), if_neg (by decide)]; exact t1, by rw [if_neg (by decide), if_neg (by decide), if_neg (by decide)]; exact t2, ⟨fun y => absurd y (by decide), fun _ => ⟨fun y => absurd y (by decide), fun _ => ⟨fun y => absurd y (by decide), fun _ => t3⟩⟩⟩⟩
  · rcases ha4 with e | e | e | e <;> subst e
    · refine ⟨fun x => ((x + s) + 3), [20, 1], by decide, ac_c_1_0, fun B x h1 h2 => ?_⟩
      obtain ⟨t1, t2, t3⟩ := rk_1_0 (x := x) h1 hs (rk_all _ _ 0 h2 (by decide))
      exact ⟨by rw [if_pos rfl]; exact t1, by rw [if_pos rfl]; exact t2, ⟨fun _ => t3, fun y => absurd rfl y⟩⟩
    · refine ⟨fun x => (((x + s) + 3) * 2), [10, 20, 1], by decide, ac_c_1_1, fun B x h1 h2 => ?_⟩
      obtain ⟨t1, t2, t3⟩ := rk_1_1 (x := x) h1 hs (rk_all _ _ 0 h2 (by decide))
      exact ⟨by rw [if_neg (by decide), if_pos rfl]; exact t1, by rw [if_neg (by decide), if_pos rfl]; exact t2, ⟨fun y => absurd y (by decide), fun _ => ⟨fun _ => t3, fun y => absurd rfl y⟩⟩⟩
    · refine ⟨fun x => (x ^^^ s), [11], by decide, ac_c_1_2, fun B x h1 h2 => ?_⟩
      obtain ⟨t1, t2, t3⟩ := rk_1_2 (x := x) h1 hs (rk_all _ _ 0 h2 (by decide))
      exact ⟨by rw [if_neg (by decide), if_neg (by decide), if_pos rfl]; exact t1, by rw [if_neg (by decide), if_neg (by decide), if_pos rfl]; exact t2, ⟨fun y => absurd y (by decide), fun _ => ⟨fun y => absurd y (by decide), fun _ => ⟨fun _ => t3, fun y => absurd rfl y⟩⟩⟩⟩
    · refine ⟨fun x => ((((x + s) + 3) * 2) - (1 ^^^ s)), [2, 10, 20, 1, 11], by decide, ac_c_1_3, fun B x h1 h2 => ?_⟩
      obtain ⟨t1, t2, t3⟩ := rk_1_3 (x := x) h1 hs (rk_all _ _ 0 h2 (by decide))
      exact ⟨by rw [if_neg (by decide), if_neg (by decide), if_neg (by decide)]; exact t1, by rw [if_neg (by decide), if_neg (by decide), if_neg (by decide)]; exact t2, ⟨fun y => absurd y (by decide), fun _ => ⟨fun y => absurd y (by decide), fun _ => ⟨fun y => absurd y (by decide), fun _ => t3⟩⟩⟩⟩
  · rcases ha4 with e | e | e | e <;> subst e
    · refine ⟨fun x => (x + s), [1], by decide, ac_c_2_0, fun B x h1 h2 => ?_⟩
      obtain ⟨t1, t2, t3⟩ := rk_2_0 (x := x) h1 hs (rk_all _ _ 0 h2 (by decide))
      exact ⟨by rw [if_pos rfl]; exact t1, by rw [if_pos rfl]; exact t2, ⟨fun _ => t3, fun y => absurd rfl y⟩⟩
    · refine ⟨fun x => (-((x + s) * 2)), [30, 10, 1], by decide, ac_c_2_1, fun B x h1 h2 => ?_⟩
      obtain ⟨t1, t2, t3⟩ := rk_2_1 (x := x) h1 hs (rk_all _ _ 0 h2 (by decide))
      exact ⟨by rw [if_neg (by decide), if_pos rfl]; exact t1, by rw [if_neg (by decide), if_pos rfl]; exact t2, ⟨fun y => absurd y (by decide), fun _ => ⟨fun _ => t3, fun y => absurd rfl y⟩⟩⟩
    · refine ⟨fun x => (x ^^^ s), [11], by decide, ac_c_2_2, fun B x h1 h2 => ?_⟩
      obtain ⟨t1, t2, t3⟩ := rk_2_2 (x := x) h1 hs (rk_all _ _ 0 h2 (by decide))
      exact ⟨by rw [if_neg (by decide), if_neg (by decide), if_pos rfl]; exact t1, by rw [if_neg (by decide), if_neg (by decide), if_pos rfl]; exact t2, ⟨fun y => absurd y (by decide), fun _ => ⟨fun y => absurd y (by decide), fun _ => ⟨fun _ => t3, fun y => absurd rfl y⟩⟩⟩⟩
    · refine ⟨fun x => ((-((x + s) * 2)) - (1 ^^^ s)), [2, 30, 10, 1, 11], by decide, ac_c_2_3, fun B x h1 h2 => ?_⟩
      obtain ⟨t1, t2, t3⟩ := rk_2_3 (x := x) h1 hs (rk_all _ _ 0 h2 (by decide))
      exact ⟨by rw [if_neg (by decide), if_neg (by decide), if_neg (by decide)]; exact t1, by rw [if_neg (by decide), if_neg (by decide), if_neg (by decide)]; exact t2, ⟨fun y => absurd y (by decide), fun _ => ⟨fun y => absurd y (by decide), fun _ => ⟨fun y => absurd y (by decide), fun _ => t3⟩⟩⟩⟩
  · rcases ha4 with e | e | e | e <;> subst e
    · refine ⟨fun x => (x + s), [1], by decide, ac_c_3_0, fun B x h1 h2 => ?_⟩
      obtain ⟨t1, t2, t3⟩ := rk_3_0 (x := x) h1 hs (rk_all _ _ 0 h2 (by decide))
      exact ⟨by rw [if_pos rfl]; exact t1, by rw [if_pos rfl]; exact t2, ⟨fun _ => t3, fun y => absurd rfl y⟩⟩
    · refine ⟨fun x => (-(((x + 1) + s) * 2)), [41, 30, 10, 1], by decide, ac_c_3_1, fun B x h1 h2 => ?_⟩
      obtain ⟨t1, t2, t3⟩ := rk_3_1 (x := x) h1 hs (rk_all _ _ 0 h2 (by decide))
      exact ⟨by rw [if_neg (by decide), if_pos rfl]; exact t1, by rw [if_neg (by decide), if_pos rfl]; exact t2, ⟨fun y => absurd y (by decide), fun _ => ⟨fun _ => t3, fun y => absurd rfl y⟩⟩⟩
    · refine ⟨fun x => ((x ^^^ s) * 3), [40, 11], by decide, ac_c_3_2, fun B x h1 h2 => ?_⟩
      obtain ⟨t1, t2, t3⟩ := rk_3_2 (x := x) h1 hs (rk_all _ _ 0 h2 (by decide))
      exact ⟨by rw [if_neg (by decide), if_neg (by decide), if_pos rfl]; exact t1, by rw [if_neg (by decide), if_neg (by decide), if_pos rfl]; exact t2, ⟨fun y => absurd y (by decide), fun _ => ⟨fun y => absurd y (by decide), fun _ => ⟨fun _ => t3, fun y => absurd rfl y⟩⟩⟩⟩
    · refine ⟨fun x => ((-(((x + 1) + s) * 2)) - ((1 ^^^ s) * 3)), [2, 41, 30, 10, 1, 40, 11], by decide, ac_c_3_3, fun B x h1 h2 => ?_⟩
      obtain ⟨t1, t2, t3⟩ := rk_3_3 (x := x) h1 hs (rk_all _ _ 0 h2 (by decide))
      exact ⟨by rw [if_neg (by decide), if_neg (by decide), if_neg (by decide)]; exact t1, by rw [if_neg (by decide), if_neg (by decide), if_neg (by decide)]; exact t2, ⟨fun y => absurd y (by decide), fun _ => ⟨fun y => absurd y (by decide), fun _ => ⟨fun y => absurd y (by decide), fun _ => t3⟩⟩⟩⟩
  · rcases ha4 with e | e | e | e <;> subst e
    · refine ⟨fun x => ((x + s) + 3), [20, 1], by decide, ac_c_4_0, fun B x h1 h2 => ?_⟩
      obtain ⟨t1, t2, t3⟩ := rk_4_0 (x := x) h1 hs (rk_all _ _ 0 h2 (by decide))
      exact ⟨by rw [if_pos rfl]; exact t1, by rw [if_pos rfl]; exact t2, ⟨fun _ => t3, fun y => absurd rfl y⟩⟩
    · refine ⟨fun x => (((x + s) + 3) * 2), [10, 20, 1], by decide, ac_c_4_1, fun B x h1 h2 => ?_⟩
      obtain ⟨t1, t2, t3⟩ := rk_4_1 (x := x) h1 hs (rk_all _ _ 0 h2 (by decide))
      exact ⟨by rw [if_neg (by decide), if_pos rfl]; exact t1, by rw [if_neg (by decide), if_pos rfl]; exact t2, ⟨fun y => absurd y (by decide), fun _ => ⟨fun _ => t3, fun y => absurd rfl y⟩⟩⟩
    · refine ⟨fun x => (x ^^^ s), [11], by decide, ac_c_4_2, fun B x h1 h2 => ?_⟩
      obtain ⟨t1, t2, t3⟩ := rk_4_2 (x := x) h1 hs (rk_all _ _ 0 h2 (by decide))
      exact ⟨by rw [if_neg (by decide), if_neg (by decide), if_pos rfl]; exact t1, by rw [if_neg (by decide), if_neg (by decide), if_pos rfl]; exact t2, ⟨fun y => absurd y (by decide), fun _ => ⟨fun y => absurd y (by decide), fun _ => ⟨fun _ => t3, fun y => absurd rfl y⟩⟩⟩⟩
    · refine ⟨fun x => (((((x + s) + 3) * 2) - (1 ^^^ s)) ^^^ 5), [50, 2, 10, 20, 1, 11], by decide, ac_c_4_3, fun B x h1 h2 => ?_⟩
      obtain ⟨t1, t2, t3⟩ := rk_4_3 (x := x) h1 hs (rk_all _ _ 0 h2 (by decide))
      exact ⟨by rw [if_neg (by decide), if_neg (by decide), if_neg (by decide)]; exact t1, by rw [if_neg (by decide), if_neg (by decide), if_neg (by decide)]; exact t2, ⟨fun y => absurd y (by decide), fun _ => ⟨fun y => absurd y (by decide), fun _ => ⟨fun y => absurd y (by decide), fun _ => t3⟩⟩⟩⟩
  · rcases ha4 with e | e | e | e <;> subst e
    · refine ⟨fun x => (x + s), [1], by decide, ac_c_5_0, fun B x h1 h2 => ?_⟩
      obtain ⟨t1, t2, t3⟩ := rk_5_0 (x := x) h1 hs (rk_all _ _ 0 h2 (by decide))
      exact ⟨by rw [if_pos rfl]; exact t1, by rw [if_pos rfl]; exact t2, ⟨fun _ => t3, fun y => absurd rfl y⟩⟩
    · refine ⟨fun x => (-(((x + 1) + s) * 2)), [41, 30, 10, 1], by decide, ac_c_5_1, fun B x h1 h2 => ?_⟩
      obtain ⟨t1, t2, t3⟩ := rk_5_1 (x := x) h1 hs (rk_all _ _ 0 h2 (by decide))
      exact ⟨by rw [if_neg (by decide), if_pos rfl]; exact t1, by rw [if_neg (by decide), if_pos rfl]; exact t2, ⟨fun y => absurd y (by decide), fun _ => ⟨fun _ => t3, fun y => absurd rfl y⟩⟩⟩
    · refine ⟨fun x => (((x ^^^ s) * 3) - (2 + s)), [60, 40, 11, 1], by decide, ac_c_5_2, fun B x h1 h2 => ?_⟩
      obtain ⟨t1, t2, t3⟩ := rk_5_2 (x := x) h1 hs (rk_all _ _ 0 h2 (by decide))
      exact ⟨by rw [if_neg (by decide), if_neg (by decide), if_pos rfl]; exact t1, by rw [if_neg (by decide), if_neg (by decide), if_pos rfl]; exact t2, ⟨fun y => absurd y (by decide), fun _ => ⟨fun y => absurd y (by decide), fun _ => ⟨fun _ => t3, fun y => absurd rfl y⟩⟩⟩⟩
    · refine ⟨fun x => (((-(((x + 1) + s) * 2)) - (((1 ^^^ s) * 3) - (2 + s))) + 1), [61, 2, 41, 30, 10, 1, 60, 40, 11, 1], by decide, ac_c_5_3, fun B x h1 h2 => ?_⟩
      obtain ⟨t1, t2, t3⟩ := rk_5_3 (x := x) h1 hs (rk_all _ _ 0 h2 (by decide))
      exact ⟨by rw [if_neg (by decide), if_neg (by decide), if_neg (by decide)]; exact t1, by rw [if_neg (by decide), if_neg (by decide), if_neg (by decide)]; exact t2, ⟨fun y => absurd y (by decide), fun _ => ⟨fun y => absurd y (by decide), fun _ => ⟨fun y => absurd y (by decide), fun _ => t3⟩⟩⟩⟩
  · rcases ha4 with e | e | e | e <;> subst e
    · refine ⟨fun x => ((x + s) * 2), [70, 1], by decide, ac_c_6_0, fun B x h1 h2 => ?_⟩
      obtain ⟨t1, t2, t3⟩ := rk_6_0 (x := x) h1 hs (rk_all _ _ 0 h2 (by decide))
      exact ⟨by rw [if_pos rfl]; exact t1, by rw [if_pos rfl]; exact t2, ⟨fun _ => t3, fun y => absurd rfl y⟩⟩
    · refine ⟨fun x => (((x + s) * 2) * 2), [10, 70, 1], by decide, ac_c_6_1, fun B x h1 h2 => ?_⟩
      obtain ⟨t1, t2, t3⟩ := rk_6_1 (x := x) h1 hs (rk_all _ _ 0 h2 (by decide))
      exact ⟨by rw [if_neg (by decide), if_pos rfl]; exact t1, by rw [if_neg (by decide), if_pos rfl]; exact t2, ⟨fun y => absurd y (by decide), fun _ => ⟨fun _ => t3, fun y => absurd rfl y⟩⟩⟩
    · refine ⟨fun x => (x ^^^ s), [11], by decide, ac_c_6_2, fun B x h1 h2 => ?_⟩
      obtain ⟨t1, t2, t3⟩ := rk_6_2 (x := x) h1 hs (rk_all _ _ 0 h2 (by decide))
      exact ⟨by rw [if_neg (by decide), if_neg (by decide), if_pos rfl]; exact t1, by rw [if_neg (by decide), if_neg (by decide), if_pos rfl]; exact t2, ⟨fun y => absurd y (by decide), fun _ => ⟨fun y => absurd y (by decide), fun _ => ⟨fun _ => t3, fun y => absurd rfl y⟩⟩⟩⟩
    · refine ⟨fun x => ((((x + s) * 2) * 2) - (1 ^^^ s)), [2, 10, 70, 1, 11], by decide, ac_c_6_3, fun B x h1 h2 => ?_⟩
      obtain ⟨t1, t2, t3⟩ := rk_6_3 (x := x) h1 hs (rk_all _ _ 0 h2 (by decide))
      exact ⟨by rw [if_neg (by decide), if_neg (by decide), if_neg (by decide)]; exact t1, by rw [if_neg (by decide), if_neg (by decide), if_neg (by decide)]; exact t2, ⟨fun y => absurd y (by decide), fun _ => ⟨fun y => absurd y (by decide), fun _ => ⟨fun y => absurd y (by decide), fun _ => t3⟩⟩⟩⟩
  · rcases ha4 with e | e | e | e <;> subst e
    · refine ⟨fun x => (((x + s) * 2) - 1), [81, 70, 1], by decide, ac_c_7_0, fun B x h1 h2 => ?_⟩
      obtain ⟨t1, t2, t3⟩ := rk_7_0 (x := x) h1 hs (rk_all _ _ 0 h2 (by decide))
      exact ⟨by rw [if_pos rfl]; exact t1, by rw [if_pos rfl]; exact t2, ⟨fun _ => t3, fun y => absurd rfl y⟩⟩
    · refine ⟨fun x => (((((x + s) * 2) - 1) * 2) + (2 ^^^ s)), [80, 10, 81, 70, 1, 11], by decide, ac_c_7_1, fun B x h1 h2 => ?_⟩
      obtain ⟨t1, t2, t3⟩ := rk_7_1 (x := x) h1 hs (rk_all _ _ 0 h2 (by decide))
      exact ⟨by rw [if_neg (by decide), if_pos rfl]; exact t1, by rw [if_neg (by decide), if_pos rfl]; exact t2, ⟨fun y => absurd y (by decide), fun _ => ⟨fun _ => t3, fun y => absurd rfl y⟩⟩⟩
    · refine ⟨fun x => (x ^^^ s), [11], by decide, ac_c_7_2, fun B x h1 h2 => ?_⟩
      obtain ⟨t1, t2, t3⟩ := rk_7_2 (x := x) h1 hs (rk_all _ _ 0 h2 (by decide))
      exact ⟨by rw [if_neg (by decide), if_neg (by decide), if_pos rfl]; exact t1, by rw [if_neg (by decide), if_neg (by decide), if_pos rfl]; exact t2, ⟨fun y => absurd y (by decide), fun _ => ⟨fun y => absurd y (by decide), fun _ => ⟨fun _ => t3, fun y => absurd rfl y⟩⟩⟩⟩
    · refine ⟨fun x => ((((((x + s) * 2) - 1) * 2) + (2 ^^^ s)) - (1 ^^^ s)), [2, 80, 10, 81, 70, 1, 11, 11], by decide, ac_c_7_3, fun B x h1 h2 => ?_⟩
      obtain ⟨t1, t2, t3⟩ := rk_7_3 (x := x) h1 hs (rk_all _ _ 0 h2 (by decide))
      exact ⟨by rw [if_neg (by decide), if_neg (by decide), if_neg (by decide)]; exact t1, by rw [if_neg (by decide), if_neg (by decide), if_neg (by decide)]; exact t2, ⟨fun y => absurd y (by decide), fun _ => ⟨fun y => absurd y (by decide), fun _ => ⟨fun y => absurd y (by decide), fun _ => t3⟩⟩⟩⟩
theorem all_31 {M : ro_Mm} (h : ro_Inv M) {v1 v2 v3 : Int32} : xp_164 M v1 v2 v3 ∧ xp_283 (xm_164 M v1 v2 v3) v1 v2 v3 ∧ xf_283 (xm_164 M v1 v2 v3) v1 v2 v3 = xf_164 M v1 v2 v3 ∧ (ro_lay (xm_283 (xm_164 M v1 v2 v3) v1 v2 v3) → ro_Inv (xm_283 (xm_164 M v1 v2 v3) v1 v2 v3)) := by
  obtain ⟨⟨h1, h2, h3⟩, ⟨h4, h5⟩, h6, h7⟩ := h.2.1.2.2.2.2.2.2.2
  have NO : ∀ (g : xp_164 M v1 v2 v3) (g1 : xf_164 M v1 v2 v3 = 0) (g2 : xm_164 M v1 v2 v3 = ro_sI M 59 3 0) (g3 : xp_283 (ro_sI M 59 3 0) v1 v2 v3) (g4 : xf_283 (ro_sI M 59 3 0) v1 v2 v3 = 0) (g5 : xm_283 (ro_sI M 59 3 0) v1 v2 v3 = ro_sI (ro_sI M 59 3 0) 163 51 0), xp_164 M v1 v2 v3 ∧ xp_283 (xm_164 M v1 v2 v3) v1 v2 v3 ∧ xf_283 (xm_164 M v1 v2 v3) v1 v2 v3 = xf_164 M v1 v2 v3 ∧ (ro_lay (xm_283 (xm_164 M v1 v2 v3) v1 v2 v3) → ro_Inv (xm_283 (xm_164 M v1 v2 v3) v1 v2 v3)) := by
    intro g g1 g2 g3 g4 g5
    rw [g2, g4, g1, g5]
    refine ⟨g, g3, rfl, fun hL => ac_inv h hL rfl (fun c j n1 n2 n3 n4 => ?_) ?_ ?_ (fun i hi => ?_)⟩
    · rw [ro_rd_s, if_neg n4, ro_rd_s, if_neg (fun q => n3 ⟨q.1, Or.inl q.2⟩)]
    · simp only [ro_rd_s]; rfl
    · rw [ro_rd_s, if_neg (by omega), ro_rd_s, if_pos ⟨rfl, rfl⟩]; decide
    · rw [ro_sI_ne (by decide), ro_sI_ne (by decide), ro_sI_ne (by decide), ro_sI_ne (by decide)]; exact h7 i hi
  by_cases b : (0 ≤ v1 ∧ v1 < M.2.1 59 2)
  · have n1 : ¬ v1 < 0 := Int32.not_lt.mpr b.1
    have n2 : ¬ M.2.1 59 2 ≤ v1 := Int32.not_le.mpr b.2
    by_cases a : (0 ≤ v2 ∧ v2 ≤ 3)
    · have n3 : ¬ v2 < 0 := Int32.not_lt.mpr a.1
      have n4 : v2 < 4 := by have := a.2; grind
      have v50 : v1 < 50 := by grind
      have hv : vp_in v1 50 := ro_vin (n := 50) b.1 v50 (by decide)
      have hn : v1.toNatClampNeg < 50 := ro_clt (n := 50) b.1 v50 (by decide)
      obtain ⟨k1, k2, k3⟩ := h6 _ hn
      have e166 : xf_166 (ro_sI (ro_sI M 59 3 0) 59 4 v1) v1 = M.2.1 60 v1.toNatClampNeg := by
        unfold xf_166
        have n5 : ¬ (50 : Int32) ≤ v1 := Int32.not_le.mpr v50
        have e2 : (ro_sI (ro_sI M 59 3 0) 59 4 v1).2.1 59 2 = M.2.1 59 2 := by rw [ro_rd_s, if_neg (by omega), ro_rd_s, if_neg (by omega)]
        rw [e2, if_neg n1, if_neg n2, if_neg n5, ro_sI_ne (by decide), ro_sI_ne (by decide)]
      obtain ⟨f, l, hl, g1, g2⟩ := ac_fin (s := v1) ⟨k2, k3⟩ a hv
      obtain ⟨t1, t2⟩ := g1 (ro_sI (ro_sI (ro_sI M 59 3 0) 59 4 v1) 59 5 (M.2.1 60 v1.toNatClampNeg)) v3 (by rw [ro_rd_s, if_neg (by omega), ro_rd_s, if_pos ⟨rfl, rfl⟩]) (by rw [ro_rd_s, if_pos ⟨rfl, rfl⟩])
      generalize hD : ro_sI (ro_sI (ro_sI M 59 3 0) 59 4 v1) 59 5 (M.2.1 60 v1.toNatClampNeg) = D at t1 t2
      have D0 : ∀ c j, ¬ (c = 59 ∧ (j = 3 ∨ j = 4 ∨ j = 5)) → D.2.1 c j = M.2.1 c j := fun c j n => by
        rw [← hD, ro_rd_s, if_neg (by omega), ro_rd_s, if_neg (by omega), ro_rd_s, if_neg (by omega)]
      have D3 : D.2.1 59 3 = nI 0 := by rw [← hD, ro_rd_s, if_neg (by omega), ro_rd_s, if_neg (by omega), ro_rd_s, if_pos ⟨rfl, rfl⟩]; rfl
      have DJ : D.2.2.1 = M.2.2.1 := by rw [← hD]; rfl
      have f164 : xf_164 M v1 v2 v3 = f v3 := by
        unfold xf_164 xf_165 xf_167
        rw [if_neg n1, if_neg n2, if_neg n3, if_pos n4, e166, hD]
        exact congrArg Prod.fst t1
      have m164 : xm_164 M v1 v2 v3 = l.foldl xm_170 D := by
        unfold xm_164 xm_165 xm_167
        rw [if_neg n1, if_neg n2, if_neg n3, if_pos n4, e166, hD]
        exact congrArg Prod.snd t1
      have p164 : xp_164 M v1 v2 v3 := by
        unfold xp_164 xp_165 xp_167
        rw [e166, hD]
        exact ⟨⟨fun y => absurd y n1, fun _ => ⟨fun y => absurd y n2, fun _ => ⟨fun y => absurd y n3, fun _ => ⟨fun _ => ⟨t2, trivial⟩, fun y => absurd n4 y⟩⟩⟩⟩, trivial⟩
      have A0 : ∀ c j, c ≠ 61 → ¬ (c = 59 ∧ (j = 3 ∨ j = 4 ∨ j = 5)) → (l.foldl xm_170 D).2.1 c j = M.2.1 c j := fun c j q1 q2 => (ac_o l D q1 (fun q => q2 ⟨q.1, Or.inl q.2⟩)).1.trans (D0 c j q2)
      have AJ : (l.foldl xm_170 D).2.2.1 = M.2.2.1 := (ac_o l D (c := 0) (j := 0) (by decide) (by decide)).2.trans DJ
      generalize hB : ro_sI (l.foldl xm_170 D) 163 51 0 = B
      have B0 : ∀ c j, c ≠ 61 → ¬ (c = 59 ∧ (j = 3 ∨ j = 4 ∨ j = 5)) → ¬ (c = 163 ∧ j = 51) → B.2.1 c j = M.2.1 c j := fun c j q1 q2 q3 => by
        rw [← hB, ro_rd_s, if_neg q3]; exact A0 c j q1 q2
      have B51 : B.2.1 163 51 = nI 0 := by rw [← hB, ro_rd_s, if_pos ⟨rfl, rfl⟩]; rfl
      obtain ⟨r1, r2, r3⟩ := g2 B v3 (by rw [B0 188 _ (by decide) (by omega) (by omega)]; exact k1) B51
      have x284 : xf_284 B v1 = true := by
        unfold xf_284
        rw [ro_w195, B0 163 49 (by decide) (by decide) (by decide), h1]
        grind
      have x195 : xf_195 B v2 0 3 = true := by rw [ro_w195]; exact a
      obtain ⟨u1, u2, u3⟩ := ac_both l D B 0 D3 B51 (by omega) (fun i hi => by rw [B0 189 i (by decide) (by omega) (by omega), D0 61 i (by omega)]; exact h7 i hi)
      refine ⟨p164, ?_, ?_, ?_⟩
      · unfold xp_283
        rw [m164, hB]
        exact ⟨fun _ => ⟨fun _ => ⟨fun y => ⟨r3.1 y, trivial⟩, fun y => ⟨fun z => ⟨(r3.2 y).1 z, trivial⟩, fun z => ⟨fun w => ⟨((r3.2 y).2 z).1 w, trivial⟩, fun w => ⟨((r3.2 y).2 z).2 w, trivial⟩⟩⟩⟩, fun y => absurd x195 y⟩, fun y => absurd x284 y⟩
      · unfold xf_283
        rw [m164, hB, if_pos x284, if_pos x195, f164]
        exact r1
      · have m283 : xm_283 (xm_164 M v1 v2 v3) v1 v2 v3 = l.foldl xm_287 B := by
          unfold xm_283
          rw [m164, hB, if_pos x284, if_pos x195]
          exact r2
        rw [m283]
        intro hL
        have e3 : (l.foldl xm_287 B).2.1 59 3 = nI (0 + l.length) := by
          rw [(ac_p l B (by decide) (by decide)).1, ← hB, ro_rd_s, if_neg (by omega)]; exact u1
        refine ac_inv h hL ((ac_p l B (c := 0) (j := 0) (by decide) (by decide)).2.trans (by rw [← hB]; exact AJ)) (fun c j q1 q2 q3 q4 => ?_) ?_ ?_ (fun i hi => ?_)
        · exact (ac_p l B q2 q4).1.trans (B0 c j q1 q3 q4)
        · rw [e3]; exact u2
        · rw [e3]; exact nI_pos' (by omega)
        · rw [u3 i hi, (ac_p l B (c := 61) (j := i) (by decide) (by omega)).1, ← hB, ro_sI_ne (by decide)]
    · have x195 : ∀ B : ro_Mm, ¬ xf_195 B v2 0 3 = true := fun B => by rw [ro_w195]; exact a
      have hor : v2 < 0 ∨ ¬ v2 < 4 := by
        by_cases z : v2 < 0
        · exact Or.inl z
        · refine Or.inr fun w => a ⟨Int32.not_lt.mp z, by grind⟩
      refine NO ?_ ?_ ?_ ?_ ?_ ?_
      · unfold xp_164 xp_165
        rcases hor with z | z
        · exact ⟨⟨fun _ => trivial, fun _ => ⟨fun _ => trivial, fun _ => ⟨fun _ => trivial, fun y => absurd z y⟩⟩⟩, trivial⟩
        · exact ⟨⟨fun _ => trivial, fun _ => ⟨fun _ => trivial, fun _ => ⟨fun _ => trivial, fun _ => ⟨fun y => absurd y z, fun _ => trivial⟩⟩⟩⟩, trivial⟩
      · unfold xf_164 xf_165
        rcases hor with z | z
        · rw [if_neg n1, if_neg n2, if_pos z]
        · rw [if_neg n1, if_neg n2, if_neg z]; exact ite_self 0
      · unfold xm_164 xm_165
        rcases hor with z | z
        · rw [if_neg n1, if_neg n2, if_pos z]
        · rw [if_neg n1, if_neg n2, if_neg z]; exact ite_self _
      · unfold xp_283
        exact ⟨fun _ => ⟨fun y => absurd y (x195 _), fun _ => trivial⟩, fun _ => trivial⟩
      · unfold xf_283
        rw [if_neg (x195 _)]; exact ite_self _
      · unfold xm_283
        rw [if_neg (x195 _)]; exact ite_self _
  · have x284 : ¬ xf_284 (ro_sI (ro_sI M 59 3 0) 163 51 0) v1 = true := by
      unfold xf_284
      have e49 : (ro_sI (ro_sI M 59 3 0) 163 51 0).2.1 163 49 = M.2.1 59 2 := by rw [ro_rd_s, if_neg (by omega), ro_sI_ne (by decide)]; exact h1
      rw [ro_w195, e49]
      intro q
      exact b ⟨q.1, by grind⟩
    have hor : v1 < 0 ∨ M.2.1 59 2 ≤ v1 := by
      by_cases z : v1 < 0
      · exact Or.inl z
      · exact Or.inr (Int32.not_lt.mp fun w => b ⟨Int32.not_lt.mp z, w⟩)
    refine NO ?_ ?_ ?_ ?_ ?_ ?_
    · unfold xp_164 xp_165
      rcases hor with z | z
      · exact ⟨⟨fun _ => trivial, fun y => absurd z y⟩, trivial⟩
      · exact ⟨⟨fun _ => trivial, fun _ => ⟨fun _ => trivial, fun y => absurd z y⟩⟩, trivial⟩
    · unfold xf_164 xf_165
      rcases hor with z | z
      · rw [if_pos z]
      · rw [if_pos z]; exact ite_self _
    · unfold xm_164 xm_165
      rcases hor with z | z
      · rw [if_pos z]
      · rw [if_pos z]; exact ite_self _
    · unfold xp_283
      exact ⟨fun y => absurd y x284, fun _ => trivial⟩
    · unfold xf_283
      rw [if_neg x284]
    · unfold xm_283
      rw [if_neg x284]
end ACT2

