/-! the class's calls, on: richest -/
section RICH
variable {X : ro_Sx} {L : List (List Int32 × List Int32)} {M : ro_Mm}
theorem ri_118 {A : ro_Mm} {p : Nat} (hp : p ≤ 6) (e1 : A.2.1 5 4 = nI p) {v : Int32} : ∀ (d k n b : Nat), p ≤ k + d → k ≤ 7 → b < p → d < n → ∃ q, q < p ∧ (xg_118_4 n A (nI k) (nI b) v).2 = nI q := by
  intro d
  induction d with
  | zero =>
    intro k n b hk hk7 hb hn
    obtain ⟨n, rfl⟩ : ∃ m, n = m + 1 := ⟨n - 1, by omega⟩
    rw [xg_118_4, e1, if_pos (ro_nple (show p ≤ k by omega) hk7)]
    exact ⟨b, hb, rfl⟩
  | succ d ih =>
    intro k n b hk hk7 hb hn
    obtain ⟨n, rfl⟩ : ∃ m, n = m + 1 := ⟨n - 1, by omega⟩
    by_cases hkp : k < p
    · rw [xg_118_4, e1, if_neg (ro_npk hkp hp), ← nI_succ]
      by_cases z : xf_38 A 6 (nI k) v ≤ xf_38 A 6 (nI b) v
      · rw [if_pos z]; exact ih (k + 1) n b (by omega) (by omega) hb (by omega)
      · rw [if_neg z]; exact ih (k + 1) n k (by omega) (by omega) hkp (by omega)
    · rw [xg_118_4, e1, if_pos (ro_nple (show p ≤ k by omega) hk7)]
      exact ⟨b, hb, rfl⟩
def ri_5 (b0 b1 b2 b3 b4 : Bool) : Int32 := (if b0 then 1 else 0) ||| ((if b1 then 2 else 0) ||| ((if b2 then 4 else 0) ||| ((if b3 then 8 else 0) ||| (if b4 then 16 else 0))))
theorem ri_st {A : ro_Mm} {w s : Int32} {n k : Nat} (hk : k < 5) : xg_117_17 (n + 1) A (nI k) s w = xg_117_17 n A (nI (k + 1)) (if decide (xf_118 A (nI k) = w) = true then s ||| (1 : Int32) <<< (nI k &&& 31) else s) w := by
  have q : ¬ (4 : Int32) < nI k := by
    rcases (show k = 0 ∨ k = 1 ∨ k = 2 ∨ k = 3 ∨ k = 4 by omega) with e | e | e | e | e <;> rw [e] <;> decide
  rw [xg_117_17, if_neg q, ← nI_succ]
  by_cases z : xf_118 A (nI k) = w
  · rw [if_pos z, if_pos (decide_eq_true z)]
  · rw [if_neg z, if_neg (by rw [decide_eq_false z]; decide)]
theorem ri_bits : ∀ b0 b1 b2 b3 b4 : Bool, (if b4 = true then (if b3 = true then (if b2 = true then (if b1 = true then (if b0 = true then (0 : Int32) ||| (1 : Int32) <<< (nI 0 &&& 31) else 0) ||| (1 : Int32) <<< (nI 1 &&& 31) else (if b0 = true then (0 : Int32) ||| (1 : Int32) <<< (nI 0 &&& 31) else 0)) ||| (1 : Int32) <<< (nI 2 &&& 31) else (if b1 = true then (if b0 = true then (0 : Int32) ||| (1 : Int32) <<< (nI 0 &&& 31) else 0) ||| (1 : Int32) <<< (nI 1 &&& 31) else (if b0 = true then (0 : Int32) ||| (1 : Int32) <<< (nI 0 &&& 31) else 0))) ||| (1 : Int32) <<< (nI 3 &&& 31) else (if b2 = true then (if b1 = true then (if b0 = true then (0 : Int32) ||| (1 : Int32) <<< (nI 0 &&& 31) else 0) ||| (1 : Int32) <<< (nI 1 &&& 31) else (if b0 = true then (0 : Int32) ||| (1 : Int32) <<< (nI 0 &&& 31) else 0)) ||| (1 : Int32) <<< (nI 2 &&& 31) else (if b1 = true then (if b0 = true then (0 : Int32) ||| (1 : Int32) <<< (nI 0 &&& 31) else 0) ||| (1 : Int32) <<< (nI 1 &&& 31) else (if b0 = true then (0 : Int32) ||| (1 : Int32) <<< (nI 0 &&& 31) else 0)))) ||| (1 : Int32) <<< (nI 4 &&& 31) else (if b3 = true then (if b2 = true then (if b1 = true then (if b0 = true then (0 : Int32) ||| (1 : Int32) <<< (nI 0 &&& 31) else 0) ||| (1 : Int32) <<< (nI 1 &&& 31) else (if b0 = true then (0 : Int32) ||| (1 : Int32) <<< (nI 0 &&& 31) else 0)) ||| (1 : Int32) <<< (nI 2 &&& 31) else (if b1 = true then (if b0 = true then (0 : Int32) ||| (1 : Int32) <<< (nI 0 &&& 31) else 0) ||| (1 : Int32) <<< (nI 1 &&& 31) else (if b0 = true then (0 : Int32) ||| (1 : Int32) <<< (nI 0 &&& 31) else 0))) ||| (1 : Int32) <<< (nI 3 &&& 31) else (if b2 = true then (if b1 = true then (if b0 = true then (0 : Int32) ||| (1 : Int32) <<< (nI 0 &&& 31) else 0) ||| (1 : Int32) <<< (nI 1 &&& 31) else (if b0 = true then (0 : Int32) ||| (1 : Int32) <<< (nI 0 &&& 31) else 0)) ||| (1 : Int32) <<< (nI 2 &&& 31) else (if b1 = true then (if b0 = true then (0 : Int32) ||| (1 : Int32) <<< (nI 0 &&& 31) else 0) ||| (1 : Int32) <<< (nI 1 &&& 31) else (if b0 = true then (0 : Int32) ||| (1 : Int32) <<< (nI 0 &&& 31) else 0))))) = ri_5 b0 b1 b2 b3 b4 := by decide +kernel
theorem ri_117 {A : ro_Mm} {w : Int32} : (xg_117_17 lp_N A 0 0 w).2 = ri_5 (decide (xf_118 A (nI 0) = w)) (decide (xf_118 A (nI 1) = w)) (decide (xf_118 A (nI 2) = w)) (decide (xf_118 A (nI 3) = w)) (decide (xf_118 A (nI 4) = w)) := by
  obtain ⟨n, hn⟩ : ∃ n, lp_N = n + 6 := ⟨99994, lp_N_eq⟩
  rw [hn, show (0 : Int32) = nI 0 from rfl, ri_st (by decide), ri_st (by decide), ri_st (by decide), ri_st (by decide), ri_st (by decide), xg_117_17, if_pos (by decide)]
  exact ri_bits _ _ _ _ _
theorem ri_or : ∀ a b c d e a2 b2 c2 d2 e2 : Bool, (!(a && a2) && !(b && b2) && !(c && c2) && !(d && d2) && !(e && e2)) = true → ri_5 a b c d e &&& ri_5 a2 b2 c2 d2 e2 = 0 ∧ ri_5 a b c d e ||| ri_5 a2 b2 c2 d2 e2 = ri_5 (a || a2) (b || b2) (c || c2) (d || d2) (e || e2) := by decide +kernel
/-- of whom there is the most, up to i -/
def ri_u (B : Nat → Nat) (i : Nat) : Int32 := ri_5 (decide (B 0 < i)) (decide (B 1 < i)) (decide (B 2 < i)) (decide (B 3 < i)) (decide (B 4 < i))
def ri_e (B : Nat → Nat) (i : Nat) : Int32 := ri_5 (decide (B 0 = i)) (decide (B 1 = i)) (decide (B 2 = i)) (decide (B 3 = i)) (decide (B 4 = i))
theorem ri_s (B : Nat → Nat) (i : Nat) : ri_u B i &&& ri_e B i = 0 ∧ ri_u B i ||| ri_e B i = ri_u B (i + 1) := by
  have k1 : ∀ x : Nat, (decide (x < i) && decide (x = i)) = false := fun x => by
    by_cases h : x < i
    · rw [decide_eq_true h, decide_eq_false (by omega)]; rfl
    · rw [decide_eq_false h]; rfl
  have k2 : ∀ x : Nat, (decide (x < i) || decide (x = i)) = decide (x < i + 1) := fun x => by
    by_cases h : x < i
    · rw [decide_eq_true h, decide_eq_true (show x < i + 1 by omega)]; rfl
    · rw [decide_eq_false h, Bool.false_or]
      by_cases g : x = i
      · rw [decide_eq_true g, decide_eq_true (show x < i + 1 by omega)]
      · rw [decide_eq_false g, decide_eq_false (show ¬ x < i + 1 by omega)]
  have h := ri_or (decide (B 0 < i)) (decide (B 1 < i)) (decide (B 2 < i)) (decide (B 3 < i)) (decide (B 4 < i)) (decide (B 0 = i)) (decide (B 1 = i)) (decide (B 2 = i)) (decide (B 3 = i)) (decide (B 4 = i)) (by rw [k1, k1, k1, k1, k1]; rfl)
  refine ⟨h.1, h.2.trans ?_⟩
  unfold ri_u
  rw [k2, k2, k2, k2, k2]
theorem ri_0 (B : Nat → Nat) : ri_u B 0 = 0 := by
  unfold ri_u
  rw [decide_eq_false (Nat.not_lt_zero _), decide_eq_false (Nat.not_lt_zero _), decide_eq_false (Nat.not_lt_zero _), decide_eq_false (Nat.not_lt_zero _), decide_eq_false (Nat.not_lt_zero _)]
  decide
theorem ri_n {B : Nat → Nat} {p : Nat} (h : ∀ s, s < 5 → B s < p) : ri_u B p = 31 := by
  unfold ri_u
  rw [decide_eq_true (h 0 (by decide)), decide_eq_true (h 1 (by decide)), decide_eq_true (h 2 (by decide)), decide_eq_true (h 3 (by decide)), decide_eq_true (h 4 (by decide))]
  decide
/-- by each worth of a notch, of whom there is the most -/
def ri_is (M : ro_Mm) (B : Nat → Nat) : Prop := ∀ s, s < 5 → xf_118 M (nI s) = nI (B s)
theorem ri_ex {p : Nat} (hp : p ≤ 6) (h0 : 0 < p) (e1 : M.2.1 5 4 = nI p) : ∃ B : Nat → Nat, (∀ s, s < 5 → B s < p) ∧ ri_is M B := by
  have h := fun s : Nat => ri_118 (A := M) hp e1 (v := nI s) 6 1 lp_N 0 (by omega) (by omega) h0 (lp_big (by omega))
  refine ⟨fun s => Classical.choose (h s), fun s _ => (Classical.choose_spec (h s)).1, fun s _ => (Classical.choose_spec (h s)).2⟩
theorem ri_c {A B : ro_Mm} {v : Int32} (h5 : B.2.1 5 4 = A.2.1 5 4) (h7 : ∀ i, B.2.1 7 i = A.2.1 7 i) (h8 : ∀ i, B.2.1 8 i = A.2.1 8 i) : ∀ (n : Nat) (k b : Int32), xg_118_4 n B k b v = xg_118_4 n A k b v
  | 0, k, b => rfl
  | n + 1, k, b => by
    have e : ∀ i w, xf_38 B 6 i w = xf_38 A 6 i w := fun i w => by unfold xf_38 xf_31 xf_32; rw [h7, h8]
    rw [xg_118_4, xg_118_4, h5, e, e, ri_c h5 h7 h8 n, ri_c h5 h7 h8 n]
theorem ri_is_c {A A2 : ro_Mm} {B : Nat → Nat} (h5 : A2.2.1 5 4 = A.2.1 5 4) (h7 : ∀ i, A2.2.1 7 i = A.2.1 7 i) (h8 : ∀ i, A2.2.1 8 i = A.2.1 8 i) (h : ri_is A B) : ri_is A2 B := fun s hs => by
  rw [← h s hs]
  unfold xf_118
  rw [ri_c h5 h7 h8]
theorem ca_rich (hk : kv L M) {p i : Nat} {B : Nat → Nat} (hp : p ≤ 6) (e1 : M.2.1 5 4 = nI p) (hi : i < p) (hB : ∀ s, s < 5 → B s < p) (hr : ri_is M B) : ro_cwp X 4 117 [.ref 4, .int (nI i)] M (fun q M2 => q = some (.int (ri_e B i)) ∧ kq M M2) := by
  have hI := (kg_inv hk).1
  have e0 : (kg L M).2.1 5 4 = nI p := (kg_c (by decide)).trans e1
  have b1 : xf_29 (kg L M) (nI i) = true := x29_t hp e0 hi
  have hr2 : ri_is (kg L M) B := ri_is_c (kg_c (by decide)) (fun i => kg_c (by decide)) (fun i => kg_c (by decide)) hr
  have f : xf_117 (kg L M) (nI i) = ri_e B i := by
    have k : ∀ s, s < 5 → decide (xf_118 (kg L M) (nI s) = nI i) = decide (B s = i) := fun s hs => by
      rw [hr2 s hs]
      have := hB s hs
      by_cases z : B s = i
      · rw [z, decide_eq_true rfl, decide_eq_true rfl]
      · rw [decide_eq_false z, decide_eq_false (fun q => z ((nI_eq (by omega) (by omega)).mp q))]
    unfold xf_117
    rw [if_pos b1, ri_117, k 0 (by decide), k 1 (by decide), k 2 (by decide), k 3 (by decide), k 4 (by decide)]
    rfl
  have h := kc_r (A := some (.int (xf_117 (kg L M) (nI i)))) hk rfl rfl (xs_117 (X := X) (kg_lay hk.1) (pc_19 hI)) (fun c k _ h2 => rfl) (fun c k _ h2 => rfl)
  rw [f] at h
  exact h
end RICH
