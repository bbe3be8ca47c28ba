/-! purses in thought: a state of them, as the class and the reference hold it -/
section PURSES
theorem nI_mul (a b : Nat) : nI a * nI b = nI (a * b) := (Int32.ofNat_mul a b).symm
theorem nI_div {a b : Nat} (ha : a < 2 ^ 31) (hb : b < 2 ^ 31) : nI a / nI b = nI (a / b) := by
  have hd : a / b < 2 ^ 31 := Nat.lt_of_le_of_lt (Nat.div_le_self a b) ha
  apply Int32.toInt_inj.mp
  rw [Int32.toInt_div, nI_toInt ha, nI_toInt hb, nI_toInt hd, ← Int.ofNat_tdiv]
  generalize a / b = q at hd ⊢
  exact Int.bmod_eq_of_le (by omega) (by omega)
theorem nI_rem {a b : Nat} (ha : a < 2 ^ 31) (hb : b < 2 ^ 31) : ro_irem (nI a) (nI b) = nI (a % b) := by
  unfold ro_irem
  rw [nI_div ha hb, nI_mul]
  have e : nI a = nI (a / b * b) + nI (a % b) := by
    rw [nI_add]
    congr 1
    have := Nat.div_add_mod a b
    rw [Nat.mul_comm] at this
    omega
  rw [e, Int32.add_comm, Int32.add_sub_cancel]
abbrev pu_T : Type := (Nat → Int32) × (Nat → Int32)
def pu_set (f : Nat → Int32) (i : Nat) (v : Int32) : Nat → Int32 := fun k => if k = i then v else f k
def pu_gw (S : pu_T) (i j : Nat) : pu_T := (pu_set (pu_set S.1 i (S.1 i - 1)) j (S.1 j + 1), S.2)
def pu_gc (S : pu_T) (i j : Nat) : pu_T := (S.1, pu_set (pu_set S.2 i (S.2 i - 1)) j (S.2 j + 1))
def pu_rf (S : pu_T) (i : Nat) : pu_T := (pu_set S.1 i (S.1 i - 1), pu_set S.2 i (S.2 i + 1))
def pu_tb (S : pu_T) (i : Nat) : pu_T := (pu_set S.1 i (S.1 i + 1), pu_set S.2 i (S.2 i - 1))
/-- may a whole one be offered, a notched one -/
def pu_mw (S : pu_T) (i j : Nat) : Bool := decide (0 < S.1 i) && (decide (S.1 j < 20) && decide (S.2 i < 20))
def pu_mc (S : pu_T) (i j : Nat) : Bool := decide (0 < S.2 i) && decide (S.2 j < 20)
theorem pu_gw_gw {S : pu_T} {i j : Nat} (h : i ≠ j) : pu_gw (pu_gw S i j) j i = S := by
  unfold pu_gw
  refine Prod.ext (funext fun k => ?_) rfl
  simp only [pu_set]
  by_cases e : k = i
  · subst e; simp only [if_true, if_neg h]; rw [Int32.sub_add_cancel]
  · by_cases e2 : k = j
    · subst e2; simp only [if_true, if_neg e]; rw [Int32.add_sub_cancel]
    · simp only [if_neg e, if_neg e2]
theorem pu_gc_gc {S : pu_T} {i j : Nat} (h : i ≠ j) : pu_gc (pu_gc S i j) j i = S := by
  unfold pu_gc
  refine Prod.ext rfl (funext fun k => ?_)
  simp only [pu_set]
  by_cases e : k = i
  · subst e; simp only [if_true, if_neg h]; rw [Int32.sub_add_cancel]
  · by_cases e2 : k = j
    · subst e2; simp only [if_true, if_neg e]; rw [Int32.add_sub_cancel]
    · simp only [if_neg e, if_neg e2]
theorem pu_tb_rf {S : pu_T} {i : Nat} : pu_tb (pu_rf S i) i = S := by
  unfold pu_tb pu_rf
  refine Prod.ext (funext fun k => ?_) (funext fun k => ?_) <;> simp only [pu_set]
  · by_cases e : k = i
    · subst e; simp only [if_true]; rw [Int32.sub_add_cancel]
    · simp only [if_neg e]
  · by_cases e : k = i
    · subst e; simp only [if_true]; rw [Int32.add_sub_cancel]
    · simp only [if_neg e]
/-- the purses that lie behind cell c (180: the reference's in thought) -/
def pu_at (p : Nat) (A : ro_Mm) (c : Nat) (S : pu_T) : Prop := ∀ k, k < p → A.2.1 (c + 1) k = S.1 k ∧ A.2.1 (c + 2) k = S.2 k
/-- nothing but them is another -/
def pu_fr (A B : ro_Mm) (c : Nat) : Prop := B.1 = A.1 ∧ B.2.2 = A.2.2 ∧ ∀ a j, a ≠ c + 1 → a ≠ c + 2 → B.2.1 a j = A.2.1 a j
def pu_c (c : Nat) : Prop := c = 36 ∨ c = 43 ∨ c = 49 ∨ c = 180
theorem pu_fr_e {M A B : ro_Mm} {c : Nat} (hc : pu_c c) (h : ro_eqv M A) (f : pu_fr A B c) : ro_eqv M B := by
  refine ⟨⟨f.1.trans h.1.1, fun e he => by rw [f.2.1]; exact h.1.2 e he⟩, fun a j e => ?_, fun a j e => ?_⟩
  · refine (f.2.2 a j ?_ ?_).trans (h.2.1 a j e)
    · exact ro_lv_ne e (by rcases hc with rfl | rfl | rfl | rfl <;> rfl)
    · exact ro_lv_ne e (by rcases hc with rfl | rfl | rfl | rfl <;> rfl)
  · rw [f.2.1]; exact h.2.2 a j e
theorem pu_at_c {p : Nat} {A B : ro_Mm} {c : Nat} {S : pu_T} (h : pu_at p A c S) (f : ∀ k, k < p → B.2.1 (c + 1) k = A.2.1 (c + 1) k ∧ B.2.1 (c + 2) k = A.2.1 (c + 2) k) : pu_at p B c S := fun k hk => ⟨(f k hk).1.trans (h k hk).1, (f k hk).2.trans (h k hk).2⟩
section UP
variable {p : Nat} {A : ro_Mm} {c i j : Nat} {S : pu_T}
/-- two places of one row -/
theorem pu_u1 (hA : pu_at p A c S) {x y : Int32} : pu_at p (ro_sI (ro_sI A (c + 1) i x) (c + 1) j y) c (pu_set (pu_set S.1 i x) j y, S.2) ∧ pu_fr A (ro_sI (ro_sI A (c + 1) i x) (c + 1) j y) c := by
  refine ⟨fun k hk => ⟨?_, ?_⟩, rfl, rfl, fun a b n1 n2 => ?_⟩
  · rw [ro_rd_s, ro_rd_s]; simp only [true_and, pu_set, (hA k hk).1]
  · rw [ro_rd_s, ro_rd_s, if_neg (by omega), if_neg (by omega)]; exact (hA k hk).2
  · rw [ro_rd_s, ro_rd_s, if_neg (fun e => n1 e.1), if_neg (fun e => n1 e.1)]
theorem pu_u2 (hA : pu_at p A c S) {x y : Int32} : pu_at p (ro_sI (ro_sI A (c + 2) i x) (c + 2) j y) c (S.1, pu_set (pu_set S.2 i x) j y) ∧ pu_fr A (ro_sI (ro_sI A (c + 2) i x) (c + 2) j y) c := by
  refine ⟨fun k hk => ⟨?_, ?_⟩, rfl, rfl, fun a b n1 n2 => ?_⟩
  · rw [ro_rd_s, ro_rd_s, if_neg (by omega), if_neg (by omega)]; exact (hA k hk).1
  · rw [ro_rd_s, ro_rd_s]; simp only [true_and, pu_set, (hA k hk).2]
  · rw [ro_rd_s, ro_rd_s, if_neg (fun e => n2 e.1), if_neg (fun e => n2 e.1)]
theorem pu_u3 (hA : pu_at p A c S) {x y : Int32} : pu_at p (ro_sI (ro_sI A (c + 1) i x) (c + 2) i y) c (pu_set S.1 i x, pu_set S.2 i y) ∧ pu_fr A (ro_sI (ro_sI A (c + 1) i x) (c + 2) i y) c := by
  refine ⟨fun k hk => ⟨?_, ?_⟩, rfl, rfl, fun a b n1 n2 => ?_⟩
  · rw [ro_rd_s, ro_rd_s, if_neg (by omega)]; simp only [true_and, pu_set, (hA k hk).1]
  · rw [ro_rd_s, ro_rd_s]
    by_cases e : k = i
    · rw [if_pos ⟨rfl, e⟩]; simp only [pu_set, if_pos e]
    · rw [if_neg (fun q => e q.2), if_neg (by omega)]; simp only [pu_set, if_neg e, (hA k hk).2]
  · rw [ro_rd_s, ro_rd_s, if_neg (fun e => n2 e.1), if_neg (fun e => n1 e.1)]
theorem pu_78 (hA : pu_at p A c S) (hp : p ≤ 6) (hi : i < p) (hj : j < p) (hij : i ≠ j) : pu_at p (xm_78 A c (nI i) (nI j)) c (pu_gw S i j) ∧ pu_fr A (xm_78 A c (nI i) (nI j)) c := by
  rw [x78 (Nat.lt_of_lt_of_le hi hp) (Nat.lt_of_lt_of_le hj hp) hij, (hA i hi).1, (hA j hj).1]; exact pu_u1 hA
theorem pu_74 (hA : pu_at p A c S) (hp : p ≤ 6) (hi : i < p) (hj : j < p) (hij : i ≠ j) : pu_at p (xm_74 A c (nI i) (nI j)) c (pu_gc S i j) ∧ pu_fr A (xm_74 A c (nI i) (nI j)) c := by
  rw [x74 (Nat.lt_of_lt_of_le hi hp) (Nat.lt_of_lt_of_le hj hp) hij, (hA i hi).2, (hA j hj).2]; exact pu_u2 hA
theorem pu_77 (hA : pu_at p A c S) (hp : p ≤ 6) (hi : i < p) : pu_at p (xm_77 A c (nI i)) c (pu_rf S i) ∧ pu_fr A (xm_77 A c (nI i)) c := by
  rw [x77 (Nat.lt_of_lt_of_le hi hp), (hA i hi).1, (hA i hi).2]; exact pu_u3 hA
theorem pu_90 (hA : pu_at p A c S) (hp : p ≤ 6) (hi : i < p) : pu_at p (xm_90 A c (nI i)) c (pu_tb S i) ∧ pu_fr A (xm_90 A c (nI i)) c := by
  have e : xm_90 A c (nI i) = ro_sI (ro_sI A (c + 1) i (A.2.1 (c + 1) i + 1)) (c + 2) i (A.2.1 (c + 2) i - 1) := by
    unfold xm_90
    rw [x16 (Nat.lt_of_lt_of_le hi hp), x17 (Nat.lt_of_lt_of_le hi hp), x32 (Nat.lt_of_lt_of_le hi hp), x31 (Nat.lt_of_lt_of_le hi hp), ro_sI_ne (by omega)]
  rw [e, (hA i hi).1, (hA i hi).2]; exact pu_u3 hA
theorem pu_75 (hA : pu_at p A c S) (hp : p ≤ 6) (hi : i < p) (hj : j < p) : xf_75 A c (nI i) (nI j) = pu_mw S i j := by
  unfold xf_75 pu_mw
  rw [x31 (Nat.lt_of_lt_of_le hi hp), x31 (Nat.lt_of_lt_of_le hj hp), x32 (Nat.lt_of_lt_of_le hi hp), (hA i hi).1, (hA j hj).1, (hA i hi).2]
  grind
theorem pu_73 (hA : pu_at p A c S) (hp : p ≤ 6) (hi : i < p) (hj : j < p) : xf_73 A c (nI i) (nI j) = pu_mc S i j := by
  unfold xf_73 pu_mc
  rw [x32 (Nat.lt_of_lt_of_le hi hp), x32 (Nat.lt_of_lt_of_le hj hp), (hA i hi).2, (hA j hj).2]
  grind
end UP
section UR
variable {p : Nat} {A : ro_Mm} {i j : Nat} {S : pu_T}
theorem pu_245 (hA : pu_at p A 180 S) (hp : p ≤ 6) (hi : i < p) (hj : j < p) (hij : i ≠ j) : pu_at p (xm_245 A (nI i) (nI j)) 180 (pu_gw S i j) ∧ pu_fr A (xm_245 A (nI i) (nI j)) 180 ∧ xp_245 A (nI i) (nI j) := by
  obtain ⟨e, e2⟩ := x245 (M := A) (Nat.lt_of_lt_of_le hi hp) (Nat.lt_of_lt_of_le hj hp) hij
  have e3 : A.2.1 181 i = S.1 i := (hA i hi).1
  have e4 : A.2.1 181 j = S.1 j := (hA j hj).1
  rw [e, e3, e4]
  exact ⟨(pu_u1 hA).1, (pu_u1 hA).2, e2⟩
theorem pu_242 (hA : pu_at p A 180 S) (hp : p ≤ 6) (hi : i < p) (hj : j < p) (hij : i ≠ j) : pu_at p (xm_242 A (nI i) (nI j)) 180 (pu_gc S i j) ∧ pu_fr A (xm_242 A (nI i) (nI j)) 180 ∧ xp_242 A (nI i) (nI j) := by
  obtain ⟨e, e2⟩ := x242 (M := A) (Nat.lt_of_lt_of_le hi hp) (Nat.lt_of_lt_of_le hj hp) hij
  have e3 : A.2.1 182 i = S.2 i := (hA i hi).2
  have e4 : A.2.1 182 j = S.2 j := (hA j hj).2
  rw [e, e3, e4]
  exact ⟨(pu_u2 hA).1, (pu_u2 hA).2, e2⟩
theorem pu_244 (hA : pu_at p A 180 S) (hp : p ≤ 6) (hi : i < p) : pu_at p (xm_244 A (nI i)) 180 (pu_rf S i) ∧ pu_fr A (xm_244 A (nI i)) 180 ∧ xp_244 A (nI i) := by
  obtain ⟨e, e2⟩ := x244 (M := A) (Nat.lt_of_lt_of_le hi hp)
  have e3 : A.2.1 181 i = S.1 i := (hA i hi).1
  have e4 : A.2.1 182 i = S.2 i := (hA i hi).2
  rw [e, e3, e4]
  exact ⟨(pu_u3 hA).1, (pu_u3 hA).2, e2⟩
theorem pu_241 (hA : pu_at p A 180 S) (hp : p ≤ 6) (hi : i < p) (hj : j < p) : xf_241 A (nI i) (nI j) = pu_mw S i j ∧ xp_241 A (nI i) (nI j) := by
  obtain ⟨q1, q2, q3, q4⟩ := ro_n6 (Nat.lt_of_lt_of_le hi hp)
  obtain ⟨r1, r2, r3, r4⟩ := ro_n6 (Nat.lt_of_lt_of_le hj hp)
  have e3 : A.2.1 181 i = S.1 i := (hA i hi).1
  have e4 : A.2.1 181 j = S.1 j := (hA j hj).1
  have e5 : A.2.1 182 i = S.2 i := (hA i hi).2
  constructor
  · unfold xf_241 pu_mw
    rw [q3, r3, e3, e4, e5]
    grind
  · unfold xp_241
    exact ⟨q4, fun _ => trivial, fun _ => ⟨q4, fun _ => trivial, fun _ => ⟨r4, trivial⟩⟩⟩
theorem pu_240 (hA : pu_at p A 180 S) (hp : p ≤ 6) (hi : i < p) (hj : j < p) : xf_240 A (nI i) (nI j) = pu_mc S i j ∧ xp_240 A (nI i) (nI j) := by
  obtain ⟨q1, q2, q3, q4⟩ := ro_n6 (Nat.lt_of_lt_of_le hi hp)
  obtain ⟨r1, r2, r3, r4⟩ := ro_n6 (Nat.lt_of_lt_of_le hj hp)
  have e3 : A.2.1 182 i = S.2 i := (hA i hi).2
  have e4 : A.2.1 182 j = S.2 j := (hA j hj).2
  constructor
  · unfold xf_240 pu_mc
    rw [q3, r3, e3, e4]
    grind
  · unfold xp_240
    exact ⟨q4, fun _ => trivial, fun _ => ⟨r4, trivial⟩⟩
end UR
/-- purses as they are now -/
def pu_now (M : ro_Mm) : pu_T := (M.2.1 7, M.2.1 8)
theorem pu_68 {M A : ro_Mm} {c p : Nat} (hA : ro_eqv M A) (hc : ro_ip c) (h6 : c ≠ 6) (hp : p ≤ 6) : xp_68 A c 6 (nI p) ∧ pu_at p (xm_68 A c 6 (nI p)) c (pu_now M) ∧ pu_fr A (xm_68 A c 6 (nI p)) c := by
  obtain ⟨x1, x2⟩ := x68 (M := A) (c0 := c) (c1 := 6) (p := p) hc (by unfold ro_ip; decide) h6 hp
  refine ⟨x2, ?_, ?_⟩
  · rw [x1]
    intro k hk
    have e7 : A.2.1 7 k = M.2.1 7 k := hA.2.1 7 k rfl
    have e8 : A.2.1 8 k = M.2.1 8 k := hA.2.1 8 k rfl
    refine ⟨?_, ?_⟩
    · show ro_cp4 A.2.1 (c + 1) (c + 2) 7 8 0 p (c + 1) k = _
      rw [cp4_1 (by omega), if_pos hk, e7]; rfl
    · show ro_cp4 A.2.1 (c + 1) (c + 2) 7 8 0 p (c + 2) k = _
      rw [cp4_2 (by omega), if_pos hk, e8]; rfl
  · rw [x1]
    refine ⟨rfl, rfl, fun a b n1 n2 => ?_⟩
    show ro_cp4 A.2.1 (c + 1) (c + 2) 7 8 0 p a b = _
    unfold ro_cp4
    rw [if_neg (fun q => n1 q.1), if_neg (fun q => n2 q.1)]
theorem pu_228 {M B : ro_Mm} {p : Nat} (h : ro_Inv M) (hB : ro_eqv M B) (hp : p ≤ 6) (e2 : M.2.1 163 1 = nI p) : xp_228 B ∧ pu_at p (xm_228 B) 180 (pu_now M) ∧ pu_fr B (xm_228 B) 180 := by
  have eB : B.2.1 163 1 = nI p := (hB.2.1 163 1 rfl).trans e2
  obtain ⟨x1, x2⟩ := x228 hp eB
  refine ⟨x2, fun k hk => ?_, ?_⟩
  · have l := ml_228 hp eB hk
    have bk := h.2.1.2.1 k (by omega)
    exact ⟨l.1.trans ((hB.2.1 164 k rfl).trans bk.1.1), l.2.trans ((hB.2.1 165 k rfl).trans bk.2.1.1)⟩
  · rw [x1]
    refine ⟨rfl, rfl, fun a b n1 n2 => ?_⟩
    show ro_cp4 B.2.1 181 182 164 165 0 p a b = _
    unfold ro_cp4
    rw [if_neg (fun q => n1 q.1), if_neg (fun q => n2 q.1)]
end PURSES

