/-! the evening as the law plays it: what is kept, the first that can't be, who refused, purses that agree -/
section EVEN
variable {od : Nat → Nat → Int32 → Int32 → Int32} {hb : Int32} {g : Nat → Nat} {T T2 : ep_T} {p : Nat}
theorem i_a1 (x a b : Int32) : x - a + (a - 1) - b + (b + 1) = x := by grind
theorem i_a2 (x y a b : Int32) : x - a + (a - 1) + (y - b + (b + 1)) = x + y := by grind
theorem su_c {f h : Nat → Int32} : ∀ n, (∀ i, i < n → f i = h i) → su f n = su h n
  | 0, _ => rfl
  | n + 1, e => by rw [su, su, su_c n (fun i hi => e i (by omega)), e n (by omega)]
theorem su_o {f : Nat → Int32} {i : Nat} {v : Int32} : ∀ n, n ≤ i → su (pu_set f i v) n = su f n := fun n hn => su_c n (fun k hk => by
  unfold pu_set
  rw [if_neg (by omega)])
theorem su_s {f : Nat → Int32} {i : Nat} {v : Int32} : ∀ n, i < n → su (pu_set f i v) n = su f n - f i + v
  | 0, h => absurd h (Nat.not_lt_zero _)
  | n + 1, h => by
    by_cases q : i = n
    · rw [su, su, su_o n (by omega), q]
      have e : pu_set f n v n = v := if_pos rfl
      rw [e]
      grind
    · rw [su, su, su_s n (by omega)]
      have e : pu_set f i v n = f n := if_neg (by omega)
      rw [e]
      grind
def sT (S : pu_T) (p : Nat) : Int32 := su S.1 p + su S.2 p
theorem sT_gw {S : pu_T} {i j : Nat} (hi : i < p) (hj : j < p) (hij : i ≠ j) : sT (pu_gw S i j) p = sT S p := by
  unfold sT pu_gw
  show su (pu_set (pu_set S.1 i (S.1 i - 1)) j (S.1 j + 1)) p + su S.2 p = _
  rw [su_s p hj, su_s p hi]
  have e : pu_set S.1 i (S.1 i - 1) j = S.1 j := if_neg (by omega)
  rw [e, i_a1]
theorem sT_gc {S : pu_T} {i j : Nat} (hi : i < p) (hj : j < p) (hij : i ≠ j) : sT (pu_gc S i j) p = sT S p := by
  unfold sT pu_gc
  show su S.1 p + su (pu_set (pu_set S.2 i (S.2 i - 1)) j (S.2 j + 1)) p = _
  rw [su_s p hj, su_s p hi]
  have e : pu_set S.2 i (S.2 i - 1) j = S.2 j := if_neg (by omega)
  rw [e, i_a1]
theorem sT_rf {S : pu_T} {i : Nat} (hi : i < p) : sT (pu_rf S i) p = sT S p := by
  unfold sT pu_rf
  show su (pu_set S.1 i (S.1 i - 1)) p + su (pu_set S.2 i (S.2 i + 1)) p = _
  rw [su_s p hi, su_s p hi, i_a2]
theorem sT_c {S S2 : pu_T} (h : ∀ k, k < p → S.1 k = S2.1 k ∧ S.2 k = S2.2 k) : sT S p = sT S2 p := by
  unfold sT
  rw [su_c p (fun k hk => (h k hk).1), su_c p (fun k hk => (h k hk).2)]
theorem ep_s_n {x k : Nat} (h : ¬ may x T = true) : ep_s od hb x k T = ep_no k T := by
  unfold may at h
  unfold ep_s
  by_cases e : x % 2 = 0
  · rw [if_pos e] at h
    rw [if_pos e, if_neg h]
  · rw [if_neg e] at h
    rw [if_neg e, if_neg h]
/-- a step that may be -/
theorem ep_k {x k : Nat} (ho : of_ok p x) (hm : may x T = true) (hok : pu_ok p T.1) : pu_ok p (ep_s od hb x k T).1 ∧ sT (ep_s od hb x k T).1 p = sT T.1 p ∧ (ep_s od hb x k T).2.2.1 = T.2.2.1 := by
  obtain ⟨hi, hj, hij⟩ := ho
  rw [ep_s_y hm]
  unfold may at hm
  by_cases e : x % 2 = 0
  · rw [if_pos e] at hm
    rw [if_pos e]
    by_cases r : rf_at od hb x T = true
    · rw [if_pos r]; exact ⟨pu_ok_rf hok hi hm, sT_rf hi, rfl⟩
    · rw [if_neg r]; exact ⟨pu_ok_gw hok hi hj hij hm, sT_gw hi hj hij, rfl⟩
  · rw [if_neg e] at hm
    rw [if_neg e]; exact ⟨pu_ok_gc hok hi hj hij hm, sT_gc hi hj hij, rfl⟩
theorem ep_a (hok : pu_ok p T.1) : ∀ k, (∀ l, l < k → of_ok p (g l)) → (∀ l, l < k → may (g l) (ep od hb g T l) = true) → pu_ok p (ep od hb g T k).1 ∧ sT (ep od hb g T k).1 p = sT T.1 p
  | 0, _, _ => ⟨hok, rfl⟩
  | k + 1, ho, hm => by
    obtain ⟨a1, a2⟩ := ep_a hok k (fun l hl => ho l (by omega)) (fun l hl => hm l (by omega))
    obtain ⟨b1, b2, _⟩ := ep_k (od := od) (hb := hb) (k := k) (ho k (by omega)) (hm k (by omega)) a1
    exact ⟨b1, b2.trans a2⟩
/-- the first that can't be -/
theorem ep_till (h0 : T.2.2.1 = -2) : ∀ k, k ≤ 20 → ((ep od hb g T k).2.2.1 = -2 ∧ ∀ l, l < k → may (g l) (ep od hb g T l) = true) ∨ ∃ j, j < k ∧ (ep od hb g T k).2.2.1 = nI j ∧ ∀ l, l < j → may (g l) (ep od hb g T l) = true
  | 0, _ => Or.inl ⟨h0, fun l hl => absurd hl (Nat.not_lt_zero _)⟩
  | k + 1, hk => by
    have key : may (g k) (ep od hb g T k) = true → (ep od hb g T (k + 1)).2.2.1 = (ep od hb g T k).2.2.1 := fun hm => by
      rw [ep, ep_s_y hm]
      split
      · split <;> rfl
      · rfl
    have key2 : ¬ may (g k) (ep od hb g T k) = true → (ep od hb g T (k + 1)).2.2.1 = if (ep od hb g T k).2.2.1 = -2 then nI k else (ep od hb g T k).2.2.1 := fun hm => by
      rw [ep, ep_s_n hm]
      rfl
    rcases ep_till h0 k (by omega) with ⟨a, b⟩ | ⟨j, hj, a, b⟩
    · by_cases hm : may (g k) (ep od hb g T k) = true
      · refine Or.inl ⟨(key hm).trans a, fun l hl => ?_⟩
        by_cases q : l = k
        · rw [q]; exact hm
        · exact b l (by omega)
      · refine Or.inr ⟨k, by omega, ?_, b⟩
        rw [key2 hm, if_pos a]
    · refine Or.inr ⟨j, by omega, ?_, b⟩
      by_cases hm : may (g k) (ep od hb g T k) = true
      · exact (key hm).trans a
      · rw [key2 hm, if_neg (fun q => absurd (show nI j < 0 by rw [← a, q]; decide) (nI_pos (by omega)))]
        exact a
/-- who refused -/
theorem wh_1 : ∀ w, w < 64 → ∀ j, j < 6 → nI w ||| ((1 : Int32) <<< (nI j &&& 31)) = nI (w ||| 2 ^ j) ∧ (w ||| 2 ^ j) < 64 ∧ pc 10 (w ||| 2 ^ j) ≤ pc 10 w + 1 := by decide +kernel
theorem ep_w (hp : p ≤ 6) (h0 : T.2.2.2 = 0) : ∀ k, (∀ l, l < k → of_ok p (g l)) → (∀ l, l < k → may (g l) (ep od hb g T l) = true) → ∃ w, (ep od hb g T k).2.2.2 = nI w ∧ w < 64 ∧ pc 10 w ≤ en od hb g T k
  | 0, _, _ => ⟨0, h0, by decide, (show pc 10 0 ≤ 0 by decide)⟩
  | k + 1, ho, hm => by
    obtain ⟨w, a1, a2, a3⟩ := ep_w hp h0 k (fun l hl => ho l (by omega)) (fun l hl => hm l (by omega))
    have hj := (ho k (by omega)).2.1
    rw [ep, ep_s_y (hm k (by omega)), en]
    by_cases e : g k % 2 = 0
    · rw [if_pos e]
      by_cases r : rf_at od hb (g k) (ep od hb g T k) = true
      · rw [if_pos r, if_pos r]
        obtain ⟨b1, b2, b3⟩ := wh_1 w a2 (g k % 20 / 2) (by omega)
        refine ⟨w ||| 2 ^ (g k % 20 / 2), ?_, b2, by omega⟩
        rw [← b1, ← a1]
        rfl
      · rw [if_neg r, if_neg r]; exact ⟨w, a1, a2, a3⟩
    · have r : ¬ rf_at od hb (g k) (ep od hb g T k) = true := by unfold rf_at; rw [decide_eq_false e, Bool.false_and]; decide
      rw [if_neg e, if_neg r]; exact ⟨w, a1, a2, a3⟩
/-- purses that agree -/
def ag (p : Nat) (S S2 : pu_T) : Prop := ∀ k, k < p → S.1 k = S2.1 k ∧ S.2 k = S2.2 k
theorem ag_s {f h : Nat → Int32} {i : Nat} {u v : Int32} (e : ∀ k, k < p → f k = h k) (q : u = v) : ∀ k, k < p → pu_set f i u k = pu_set h i v k := fun k hk => by
  unfold pu_set
  rw [q, e k hk]
theorem ag_1 {x k : Nat} (ho : of_ok p x) (h : ag p T.1 T2.1) (h2 : T.2 = T2.2) : (ag p (ep_s od hb x k T).1 (ep_s od hb x k T2).1 ∧ (ep_s od hb x k T).2 = (ep_s od hb x k T2).2) ∧ may x T = may x T2 ∧ rf_at od hb x T = rf_at od hb x T2 := by
  obtain ⟨hi, hj, _⟩ := ho
  obtain ⟨i1, i2⟩ := h _ hi
  obtain ⟨j1, j2⟩ := h _ hj
  have hmw : pu_mw T.1 (x / 20) (x % 20 / 2) = pu_mw T2.1 (x / 20) (x % 20 / 2) := by unfold pu_mw; rw [i1, i2, j1]
  have hmc : pu_mc T.1 (x / 20) (x % 20 / 2) = pu_mc T2.1 (x / 20) (x % 20 / 2) := by unfold pu_mc; rw [i2, j2]
  have e1 : ∀ k, k < p → T.1.1 k = T2.1.1 k := fun k hk => (h k hk).1
  have e2 : ∀ k, k < p → T.1.2 k = T2.1.2 k := fun k hk => (h k hk).2
  refine ⟨?_, by unfold may; rw [hmw, hmc], by unfold rf_at; rw [j1, j2]⟩
  have NO : ag p (ep_no k T).1 (ep_no k T2).1 ∧ (ep_no k T).2 = (ep_no k T2).2 := ⟨h, by unfold ep_no; rw [h2]⟩
  unfold ep_s
  by_cases e : x % 2 = 0
  · rw [if_pos e, if_pos e, hmw]
    by_cases m : pu_mw T2.1 (x / 20) (x % 20 / 2) = true
    · rw [if_pos m, if_pos m, j1, j2]
      by_cases r : od (x / 20) (x % 20 / 2) (T2.1.1 (x % 20 / 2)) (T2.1.2 (x % 20 / 2)) < hb
      · rw [if_pos r, if_pos r]
        refine ⟨fun k hk => ⟨ag_s (ag_s e1 (by rw [i1])) (by rw [j1]) k hk, e2 k hk⟩, h2⟩
      · rw [if_neg r, if_neg r]
        refine ⟨fun k hk => ⟨ag_s e1 (by rw [i1]) k hk, ag_s e2 (by rw [i2]) k hk⟩, by unfold ep_rf; rw [h2]⟩
    · rw [if_neg m, if_neg m]; exact NO
  · rw [if_neg e, if_neg e, hmc]
    by_cases m : pu_mc T2.1 (x / 20) (x % 20 / 2) = true
    · rw [if_pos m, if_pos m]
      exact ⟨fun k hk => ⟨e1 k hk, ag_s (ag_s e2 (by rw [i2])) (by rw [j2]) k hk⟩, h2⟩
    · rw [if_neg m, if_neg m]; exact NO
theorem ag_k (h : ag p T.1 T2.1) (h2 : T.2 = T2.2) : ∀ k, (∀ l, l < k → of_ok p (g l)) → ag p (ep od hb g T k).1 (ep od hb g T2 k).1 ∧ (ep od hb g T k).2 = (ep od hb g T2 k).2 ∧ eb od hb g T k = eb od hb g T2 k ∧ en od hb g T k = en od hb g T2 k
  | 0, _ => ⟨h, h2, rfl, rfl⟩
  | k + 1, ho => by
    obtain ⟨a1, a2, a3, a4⟩ := ag_k h h2 k (fun l hl => ho l (by omega))
    obtain ⟨⟨b1, b2⟩, _, b4⟩ := ag_1 (od := od) (hb := hb) (k := k) (ho k (by omega)) a1 a2
    refine ⟨b1, b2, ?_, ?_⟩
    · rw [eb, eb, b4, a3]
    · rw [en, en, b4, a4]
theorem ag_m (h : ag p T.1 T2.1) (h2 : T.2 = T2.2) {n : Nat} (ho : ∀ l, l < n → of_ok p (g l)) (hm : ∀ l, l < n → may (g l) (ep od hb g T l) = true) : ∀ l, l < n → may (g l) (ep od hb g T2 l) = true := fun l hl => by
  obtain ⟨a1, a2, _⟩ := ag_k (od := od) (hb := hb) (g := g) h h2 l (fun m hm => ho m (by omega))
  rw [← (ag_1 (od := od) (hb := hb) (k := 0) (ho l hl) a1 a2).2.1]
  exact hm l hl
def sp (p : Nat) (S : pu_T) : pu_T := (fun k => if k < p then S.1 k else 0, fun k => if k < p then S.2 k else 0)
theorem sp_ag {S : pu_T} : ag p S (sp p S) := fun k hk => ⟨(if_pos hk).symm, (if_pos hk).symm⟩
theorem sp_S0 {M : ro_Mm} {S : pu_T} (h : pu_now M = S) : wy_S0 M p = sp p S := by rw [← h]; rfl
/-- a set without another that holds it -/
theorem and_cl {x b : Nat} (h : x &&& b = x) : nI x &&& (nI b ^^^ (-1 : Int32)) = 0 := by
  rw [← h, ← nx_and, Int32.and_assoc, Int32.xor_neg_one, Int32.and_not_self, Int32.and_zero]
end EVEN
