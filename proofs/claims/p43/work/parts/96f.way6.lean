/-! ways behind an evening: one row goes on, a level goes on, all levels -/
section WYF
theorem wy_135_c {M M2 : ro_Mm} (h : ∀ x j, x ≤ 150 → M2.2.1 x j = M.2.1 x j) {l : Nat} (hl : l ≤ 20) {k : Int64} {v y : Int32} : xf_135 M2 (nI l) k v y = xf_135 M (nI l) k v y := by
  have el : (nI l).toNatClampNeg = l := nI_clamp (by omega)
  have e1 : M2.2.1 (64 + l) = M.2.1 (64 + l) := funext fun j => h _ j (by omega)
  have e2 : M2.2.1 (86 + l) = M.2.1 (86 + l) := funext fun j => h _ j (by omega)
  have e3 : M2.2.1 (108 + l) = M.2.1 (108 + l) := funext fun j => h _ j (by omega)
  have e4 : M2.2.1 (130 + l) = M.2.1 (130 + l) := funext fun j => h _ j (by omega)
  unfold xf_135 xf_130
  rw [el, e1, e2, e3, e4]
theorem wy_ky_c {M M2 : ro_Mm} (h : ∀ x j, x ≤ 150 → M2.2.1 x j = M.2.1 x j) {a b : Nat → Nat} {l : Nat} (hl : l + 1 ≤ 20) {k : Int64} : wy_ky M2 a b l k = wy_ky M a b l k := by
  unfold wy_ky
  rw [wy_135_c h hl, wy_135_c h hl, wy_135_c h hl]
theorem wy_kn_c {M M2 : ro_Mm} (h : ∀ x j, x ≤ 150 → M2.2.1 x j = M.2.1 x j) {a b : Nat → Nat} {l : Nat} (hl : l + 1 ≤ 20) {k : Int64} : wy_kn M2 a b l k = wy_kn M a b l k := by
  unfold wy_kn
  rw [wy_135_c h hl, wy_135_c h hl, wy_135_c h hl]
theorem wy_kc_c {M M2 : ro_Mm} (h : ∀ x j, x ≤ 150 → M2.2.1 x j = M.2.1 x j) {a b : Nat → Nat} {l : Nat} (hl : l + 1 ≤ 20) {k : Int64} : wy_kc M2 a b l k = wy_kc M a b l k := by
  unfold wy_kc
  rw [wy_135_c h hl, wy_135_c h hl]
/-- the offers, as the class has read them -/
def wy_rd (M : ro_Mm) (wh : Nat → Bool) (a b : Nat → Nat) (K : Nat) : Prop := ∀ l, l < K → M.2.1 39 l = nI (a l) ∧ M.2.1 40 l = nI (b l) ∧ (M.2.1 41 l = 0 ↔ wh l = true)
theorem wy_rd_f {M : ro_Mm} {wh : Nat → Bool} {a b : Nat → Nat} {K l : Nat} (h : wy_rd M wh a b K) (hK : K ≤ 20) (hl : l < K) : xf_69 M (nI l) = nI (a l) ∧ xf_70 M (nI l) = nI (b l) ∧ (xf_71 M (nI l) = true ↔ wh l = true) := by
  have k0 : ¬ nI l < 0 := nI_pos (by omega)
  have k20 : ¬ (20 : Int32) ≤ nI l := nI_ge (b := 20) (by omega) (by omega)
  have ek : (nI l).toNatClampNeg = l := nI_clamp (by omega)
  obtain ⟨r1, r2, r3⟩ := h l hl
  refine ⟨?_, ?_, ?_⟩
  · unfold xf_69; rw [if_neg k0, if_neg k20, ek, r1]
  · unfold xf_70; rw [if_neg k0, if_neg k20, ek, r2]
  · unfold xf_71; rw [if_neg k0, if_neg k20, ek, ← r3]
    by_cases z : M.2.1 41 l = 0
    · simp [z]
    · simp [z]
theorem wy_6 {n : Nat} : (6 : Int32) + nI n = nI (6 + n) := nI_add 6 n
theorem wy_or (a b : Nat) : nI a ||| nI b = nI (a ||| b) := by
  apply Int32.toBitVec_inj.mp
  rw [Int32.toBitVec_or]
  apply BitVec.eq_of_getLsbD_eq
  intro i hi
  have e : ∀ n : Nat, (nI n).toBitVec = BitVec.ofNat 32 n := fun n => rfl
  rw [BitVec.getLsbD_or, e, e, e, BitVec.getLsbD_ofNat, BitVec.getLsbD_ofNat, BitVec.getLsbD_ofNat, Nat.testBit_or]
  cases decide (i < 32) <;> simp
theorem wy_1l : ∀ l, l < 20 → (1 : Int32) <<< (nI l &&& 31) = nI (2 ^ l) := by decide
theorem wy_2l : ∀ l, l < 20 → 2 ^ l ≤ 524288 := by decide
/-- the levels, as they lie -/
def wy_lv (M : ro_Mm) (c d : Nat) : Prop := lft M = c ∧ lnt M = d ∧ ((c = 153 ∧ d = 158) ∨ (c = 158 ∧ d = 153))
theorem wy_lv_c {M M2 : ro_Mm} {c d : Nat} (h : wy_lv M c d) (e : M2.2.2.2 = M.2.2.2) : wy_lv M2 c d := ⟨by rw [lft_c e]; exact h.1, by rw [lnt_c e]; exact h.2.1, h.2.2⟩
section GO
variable {M0 : ro_Mm} {wh : Nat → Bool} {a b : Nat → Nat} {T : Nat → wy_W} {K d l c0 c s0 bd : Nat} {F : Nat → wy_T} {V : Int64 → Prop}
/-- a level's next table, after i rows -/
def wy_gi (M0 : ro_Mm) (wh : Nat → Bool) (a b : Nat → Nat) (d l c0 c bd : Nat) (F : Nat → wy_T) (V : Int64 → Prop) (i : Nat) (M : ro_Mm) : Prop := wy_fr c M0 M ∧ ∃ s E, wy_tb M c s (bd + 2097152) E ∧ wy_hx M c s ∧ s ≤ 2 * i ∧ (∀ j, j < s → V (M.2.2.1 (c + 1) j)) ∧
  wy_pf (fun j => wy_ph (wy_G wh (wy_ky M0 a b) (wy_kn M0 a b) (wy_kc M0 a b) d (l + 1) (M.2.2.1 (c + 1) j)) (E j)) s = wy_pf (fun j => wy_ph (wy_G wh (wy_ky M0 a b) (wy_kn M0 a b) (wy_kc M0 a b) (d + 1) l (M0.2.2.1 (c0 + 1) j)) (F j)) i
theorem wy_room {M : ro_Mm} {s x : Nat} {k : Int64} (hR : (∀ (s : Nat) (key : Nat → Int64), (∀ i, i < s → V (key i)) → (∀ i j, i < s → j < s → key i = key j → i = j) → s ≤ 8192) ∨ 2 * s0 ≤ 8192) (hx : s ≤ x) (hx2 : x < 2 * s0) (hv : ∀ j, j < s → V (M.2.2.1 (c + 1) j)) (hu : ∀ i j, i < s → j < s → M.2.2.1 (c + 1) i = M.2.2.1 (c + 1) j → i = j) (hk : ¬ k < 0 → V k) : ¬ k < 0 → (∀ j, j < s → M.2.2.1 (c + 1) j ≠ k) → s < 8192 := by
  intro k0 hn
  rcases hR with hR | hR
  · have := hR (s + 1) (fun j => if j = s then k else M.2.2.1 (c + 1) j) (fun i hi => by
      show V (if i = s then k else M.2.2.1 (c + 1) i)
      by_cases z : i = s
      · rw [if_pos z]; exact hk k0
      · rw [if_neg z]; exact hv i (by omega)) (fun i j hi hj e => by
      have e2 : (if i = s then k else M.2.2.1 (c + 1) i) = (if j = s then k else M.2.2.1 (c + 1) j) := e
      by_cases z : i = s
      · by_cases y : j = s
        · omega
        · rw [if_pos z, if_neg y] at e2
          exact absurd e2.symm (hn j (by omega))
      · by_cases y : j = s
        · rw [if_neg z, if_pos y] at e2
          exact absurd e2 (hn i (by omega))
        · rw [if_neg z, if_neg y] at e2
          exact hu i j (by omega) (by omega) e2)
    omega
  · omega
set_option maxHeartbeats 4000000 in
theorem wy_134 (hE : wy_ev M0 wh a b T K) (hr : wy_rd M0 wh a b K) (hlv : wy_lv M0 c0 c) (hF : wy_tb M0 c0 s0 bd F) (hbd : bd + 2097152 < 2 ^ 31) (hl : l + (d + 1) = K)
    (hV1 : wh l = true → ∀ i, i < s0 → (¬ wy_ky M0 a b l (M0.2.2.1 (c0 + 1) i) < 0 → V (wy_ky M0 a b l (M0.2.2.1 (c0 + 1) i))) ∧ (¬ wy_kn M0 a b l (M0.2.2.1 (c0 + 1) i) < 0 → V (wy_kn M0 a b l (M0.2.2.1 (c0 + 1) i))))
    (hV2 : ¬ wh l = true → ∀ i, i < s0 → ¬ wy_kc M0 a b l (M0.2.2.1 (c0 + 1) i) < 0 → V (wy_kc M0 a b l (M0.2.2.1 (c0 + 1) i)))
    (hR : (∀ (s : Nat) (key : Nat → Int64), (∀ i, i < s → V (key i)) → (∀ i j, i < s → j < s → key i = key j → i = j) → s ≤ 8192) ∨ 2 * s0 ≤ 8192)
    {i : Nat} (hi : i < s0) {M : ro_Mm} (hg : wy_gi M0 wh a b d l c0 c bd F V i M) : xp_134 M (nI i) (nI l) ∧ wy_gi M0 wh a b d l c0 c bd F V (i + 1) (xm_134 M (nI i) (nI l)) := by
  have hK := hE.1
  obtain ⟨f1, f2, f3, f4⟩ := hg.1
  obtain ⟨_, s, E, t, hx, hs, hv, hp⟩ := hg
  obtain ⟨lv1, lv2, lv3⟩ := wy_lv_c hlv f2
  obtain ⟨F1, F2, F3, F4⟩ := hF
  have h150 : ∀ x j, x ≤ 150 → M.2.1 x j = M0.2.1 x j := fun x j hx => f3 x j (by omega) (by omega) (Or.inl (by omega))
  have rdM : wy_rd M wh a b K := fun y hy => by
    rw [h150 39 y (by omega), h150 40 y (by omega), h150 41 y (by omega)]; exact hr y hy
  obtain ⟨g1, g2, g3⟩ := wy_rd_f rdM hK (show l < K by omega)
  have kI : (nI i).toNatClampNeg = i := nI_clamp (by omega)
  have c1 : ¬ nI i < 0 := nI_pos (by omega)
  have c2 : ¬ (8192 : Int32) ≤ nI i := nI_ge (b := 8192) (by omega) (by decide)
  have c3 : ¬ nI l < 0 := nI_pos (by omega)
  have c4 : nI l < (20 : Int32) := nI_lt (b := 20) (by omega) (by decide)
  obtain ⟨e1, e2, e3, e4, e5, e6, e7⟩ := F3 i hi
  have dc : ∀ x, (x = c0 + 2 ∨ x = c0 + 3 ∨ x = c0 + 4) → ∀ j, M.2.1 x j = M0.2.1 x j := fun x hx j => f3 x j (by omega) (by omega) (by omega)
  have ek : M.2.2.1 (c0 + 1) i = M0.2.2.1 (c0 + 1) i := f4 (c0 + 1) i (by omega)
  have w1 : M.2.1 (c0 + 2) i = nI (F i).1 := (dc _ (Or.inl rfl) i).trans e1
  have w2 : M.2.1 (c0 + 3) i = nI (F i).2.1 := (dc _ (Or.inr (Or.inl rfl)) i).trans e2
  have w3 : M.2.1 (c0 + 4) i = nI (F i).2.2 := (dc _ (Or.inr (Or.inr rfl)) i).trans e3
  have hcc : c = 153 ∨ c = 158 := by omega
  have u1 := t.2.2.2
  have hl1 : nI l + 1 = nI (l + 1) := (nI_succ l).symm
  have eG : wy_pf (fun j => wy_ph (wy_G wh (wy_ky M0 a b) (wy_kn M0 a b) (wy_kc M0 a b) (d + 1) l (M0.2.2.1 (c0 + 1) j)) (F j)) (i + 1) = wy_mo (wy_pf (fun j => wy_ph (wy_G wh (wy_ky M0 a b) (wy_kn M0 a b) (wy_kc M0 a b) (d + 1) l (M0.2.2.1 (c0 + 1) j)) (F j)) i) (wy_ph (wy_G wh (wy_ky M0 a b) (wy_kn M0 a b) (wy_kc M0 a b) (d + 1) l (M0.2.2.1 (c0 + 1) i)) (F i)) := rfl
  unfold xm_134 xp_134
  rw [if_neg c1, if_neg c2, if_neg c3, if_pos c4, g1, g2, wy_6, hl1, lv1, kI, ek, w1, w2, w3]
  by_cases hw : wh l = true
  · have c5 : xf_71 M (nI l) = true := g3.mpr hw
    rw [if_pos c5]
    have KY : xf_135 M (nI (l + 1)) (xf_135 M (nI (l + 1)) (xf_135 M (nI (l + 1)) (M0.2.2.1 (c0 + 1) i) (nI (a l)) (-1)) (nI (b l)) 1) (nI (6 + a l)) 0 = wy_ky M0 a b l (M0.2.2.1 (c0 + 1) i) := wy_ky_c h150 (by omega)
    rw [KY]
    obtain ⟨v1, v2⟩ := hV1 hw i hi
    obtain ⟨q1, s1, E1, q2, q3, q4, q5, q6, q7⟩ := wy_rch (e := F i) lv2 hcc t hx hbd e6 (by omega) e5 (wy_room (x := 2 * i) hR hs (by omega) hv u1 v1)
    generalize hM1 : xm_131 M (wy_ky M0 a b l (M0.2.2.1 (c0 + 1) i)) (nI (F i).1) (nI (F i).2.1) (nI (F i).2.2) = M1 at q2 q3 q5 q6 q7 ⊢
    have fr1 : wy_fr c M0 M1 := wy_fr_t ⟨f1, f2, f3, f4⟩ q5
    have h151 : ∀ x j, x ≤ 150 → M1.2.1 x j = M0.2.1 x j := fun x j hx => fr1.2.2.1 x j (by omega) (by omega) (Or.inl (by omega))
    obtain ⟨lw1, lw2, _⟩ := wy_lv_c hlv fr1.2.1
    have k1 : xf_135 M (nI (l + 1)) (M0.2.2.1 (c0 + 1) i) (nI (a l)) (-1) = xf_135 M1 (nI (l + 1)) (M0.2.2.1 (c0 + 1) i) (nI (a l)) (-1) := by
      rw [wy_135_c h150 (by omega), wy_135_c h151 (by omega)]
    have KN : xf_135 M1 (nI (l + 1)) (xf_135 M1 (nI (l + 1)) (xf_135 M (nI (l + 1)) (M0.2.2.1 (c0 + 1) i) (nI (a l)) (-1)) (nI (b l)) 0) (nI (6 + a l)) 1 = wy_kn M0 a b l (M0.2.2.1 (c0 + 1) i) := by
      rw [k1]; exact wy_kn_c h151 (by omega)
    have dc1 : ∀ x, (x = c0 + 2 ∨ x = c0 + 3 ∨ x = c0 + 4) → ∀ j, M1.2.1 x j = M0.2.1 x j := fun x hx j => fr1.2.2.1 x j (by omega) (by omega) (by omega)
    have y1 : M1.2.1 (c0 + 2) i = nI (F i).1 := (dc1 _ (Or.inl rfl) i).trans e1
    have y2 : M1.2.1 (c0 + 3) i = nI (F i).2.1 := (dc1 _ (Or.inr (Or.inl rfl)) i).trans e2
    have y3 : M1.2.1 (c0 + 4) i = nI (F i).2.2 := (dc1 _ (Or.inr (Or.inr rfl)) i).trans e3
    have y4 : nI (F i).2.1 + 1048576 + (1 : Int32) <<< (nI l &&& 31) = nI (wy_en l (F i)).2.1 := by
      rw [wy_1l l (by omega)]
      have z : (1048576 : Int32) = nI 1048576 := rfl
      rw [z, nI_add, nI_add]
      show nI ((F i).2.1 + 1048576 + 2 ^ l) = nI ((F i).2.1 + (1048576 + 2 ^ l))
      rw [Nat.add_assoc]
    have y5 : nI (F i).2.2 ||| (1 : Int32) <<< (nI l &&& 31) = nI (wy_en l (F i)).2.2 := by
      rw [wy_1l l (by omega), wy_or]; rfl
    have p2 := wy_2l l (by omega)
    have en2 : (wy_en l (F i)).2.1 ≤ bd + 2097152 := by
      show (F i).2.1 + (1048576 + 2 ^ l) ≤ bd + 2097152
      omega
    have en3 : (wy_en l (F i)).2.2 < 1048576 := by
      show (F i).2.2 ||| 2 ^ l < 2 ^ 20
      exact Nat.or_lt_two_pow e5 (by omega)
    have hv1 : ∀ j, j < s1 → V (M1.2.2.1 (c + 1) j) := fun j hj => by
      rcases q6 j hj with ⟨z1, z2⟩ | ⟨y, hy, z⟩
      · rw [z2]; exact v1 z1
      · rw [z]; exact hv y hy
    have ye : nI (F i).1 = nI (wy_en l (F i)).1 := rfl
    obtain ⟨r1, s2, E2, r2, r3, r4, r5, r6, r7⟩ := wy_rch (e := wy_en l (F i)) (k := wy_kn M0 a b l (M0.2.2.1 (c0 + 1) i)) lw2 hcc q2 q3 hbd e6 en2 en3 (wy_room (x := 2 * i + 1) hR (by omega) (by omega) hv1 q2.2.2.2 v2)
    rw [KN, lw1, y1, y2, y3, y4, y5, ye]
    generalize hM2 : xm_131 M1 (wy_kn M0 a b l (M0.2.2.1 (c0 + 1) i)) (nI (wy_en l (F i)).1) (nI (wy_en l (F i)).2.1) (nI (wy_en l (F i)).2.2) = M2 at r2 r3 r5 r6 r7 ⊢
    refine ⟨⟨fun y => absurd y c1, fun _ => ⟨fun y => absurd y c2, fun _ => ⟨fun y => absurd y c3, fun _ => ⟨fun _ => ⟨fun _ => ⟨q1, r1, trivial⟩, fun y => absurd c5 y⟩, fun y => absurd c4 y⟩⟩⟩⟩, wy_fr_t fr1 r5, s2, E2, r2, r3, by omega, fun j hj => ?_, ?_⟩
    · rcases r6 j hj with ⟨z1, z2⟩ | ⟨y, hy, z⟩
      · rw [z2]; exact v2 z1
      · rw [z]; exact hv1 y hy
    · refine (r7 _).trans ?_
      rw [q7, hp, wy_mo_a, eG]
      have eg : wy_ph (wy_G wh (wy_ky M0 a b) (wy_kn M0 a b) (wy_kc M0 a b) (d + 1) l (M0.2.2.1 (c0 + 1) i)) (F i) = wy_mo (if wy_ky M0 a b l (M0.2.2.1 (c0 + 1) i) < 0 then wy_ne else wy_ph (wy_G wh (wy_ky M0 a b) (wy_kn M0 a b) (wy_kc M0 a b) d (l + 1) (wy_ky M0 a b l (M0.2.2.1 (c0 + 1) i))) (F i)) (if wy_kn M0 a b l (M0.2.2.1 (c0 + 1) i) < 0 then wy_ne else wy_ph (wy_G wh (wy_ky M0 a b) (wy_kn M0 a b) (wy_kc M0 a b) d (l + 1) (wy_kn M0 a b l (M0.2.2.1 (c0 + 1) i))) (wy_en l (F i))) := by
        rw [wy_G, if_pos hw, wy_ph_app]
        by_cases n1 : wy_ky M0 a b l (M0.2.2.1 (c0 + 1) i) < 0
        · by_cases n2 : wy_kn M0 a b l (M0.2.2.1 (c0 + 1) i) < 0
          · rw [if_pos n1, if_pos n1, if_pos n2, if_pos n2]; rfl
          · rw [if_pos n1, if_pos n1, if_neg n2, if_neg n2, wy_ph_no]; rfl
        · by_cases n2 : wy_kn M0 a b l (M0.2.2.1 (c0 + 1) i) < 0
          · rw [if_neg n1, if_neg n1, if_pos n2, if_pos n2]; rfl
          · rw [if_neg n1, if_neg n1, if_neg n2, if_neg n2, wy_ph_no]
      rw [eg]
  · have c5 : ¬ xf_71 M (nI l) = true := fun q => hw (g3.mp q)
    rw [if_neg c5, wy_6]
    have KC : xf_135 M (nI (l + 1)) (xf_135 M (nI (l + 1)) (M0.2.2.1 (c0 + 1) i) (nI (6 + a l)) (-1)) (nI (6 + b l)) 1 = wy_kc M0 a b l (M0.2.2.1 (c0 + 1) i) := wy_kc_c h150 (by omega)
    rw [KC]
    have v1 := hV2 hw i hi
    obtain ⟨q1, s1, E1, q2, q3, q4, q5, q6, q7⟩ := wy_rch (e := F i) lv2 hcc t hx hbd e6 (by omega) e5 (wy_room (x := 2 * i) hR hs (by omega) hv u1 v1)
    generalize hM1 : xm_131 M (wy_kc M0 a b l (M0.2.2.1 (c0 + 1) i)) (nI (F i).1) (nI (F i).2.1) (nI (F i).2.2) = M1 at q2 q3 q5 q6 q7 ⊢
    refine ⟨⟨fun y => absurd y c1, fun _ => ⟨fun y => absurd y c2, fun _ => ⟨fun y => absurd y c3, fun _ => ⟨fun _ => ⟨fun y => absurd y c5, fun _ => ⟨q1, trivial⟩⟩, fun y => absurd c4 y⟩⟩⟩⟩, wy_fr_t ⟨f1, f2, f3, f4⟩ q5, s1, E1, q2, q3, by omega, fun j hj => ?_, ?_⟩
    · rcases q6 j hj with ⟨z1, z2⟩ | ⟨y, hy, z⟩
      · rw [z2]; exact v1 z1
      · rw [z]; exact hv y hy
    · refine (q7 _).trans ?_
      rw [hp, eG]
      have eg : wy_ph (wy_G wh (wy_ky M0 a b) (wy_kn M0 a b) (wy_kc M0 a b) (d + 1) l (M0.2.2.1 (c0 + 1) i)) (F i) = if wy_kc M0 a b l (M0.2.2.1 (c0 + 1) i) < 0 then wy_ne else wy_ph (wy_G wh (wy_ky M0 a b) (wy_kn M0 a b) (wy_kc M0 a b) d (l + 1) (wy_kc M0 a b l (M0.2.2.1 (c0 + 1) i))) (F i) := by
        rw [wy_G, if_neg hw]
        by_cases n1 : wy_kc M0 a b l (M0.2.2.1 (c0 + 1) i) < 0
        · rw [if_pos n1, if_pos n1]; rfl
        · rw [if_neg n1, if_neg n1]
      rw [eg]
theorem wy_83 (hE : wy_ev M0 wh a b T K) (hr : wy_rd M0 wh a b K) (hlv : wy_lv M0 c0 c) (hF : wy_tb M0 c0 s0 bd F) (hbd : bd + 2097152 < 2 ^ 31) (hl : l + (d + 1) = K)
    (hV1 : wh l = true → ∀ i, i < s0 → (¬ wy_ky M0 a b l (M0.2.2.1 (c0 + 1) i) < 0 → V (wy_ky M0 a b l (M0.2.2.1 (c0 + 1) i))) ∧ (¬ wy_kn M0 a b l (M0.2.2.1 (c0 + 1) i) < 0 → V (wy_kn M0 a b l (M0.2.2.1 (c0 + 1) i))))
    (hV2 : ¬ wh l = true → ∀ i, i < s0 → ¬ wy_kc M0 a b l (M0.2.2.1 (c0 + 1) i) < 0 → V (wy_kc M0 a b l (M0.2.2.1 (c0 + 1) i)))
    (hR : (∀ (s : Nat) (key : Nat → Int64), (∀ i, i < s → V (key i)) → (∀ i j, i < s → j < s → key i = key j → i = j) → s ≤ 8192) ∨ 2 * s0 ≤ 8192) {v2 : Int32} {c1 : Nat} :
    ∀ (r i n : Nat) (M : ro_Mm), i + r = s0 → r < n → wy_gi M0 wh a b d l c0 c bd F V i M → xq_120_83 n M (nI i) (nI l) v2 c1 ∧ wy_gi M0 wh a b d l c0 c bd F V s0 (xg_120_83 n M (nI i) (nI l) v2 c1).2 := by
  intro r
  induction r with
  | zero =>
    intro i n M hi hn hg
    cases n with
    | zero => exact absurd hn (Nat.not_lt_zero _)
    | succ n =>
      obtain ⟨f1, f2, f3, f4⟩ := hg.1
      obtain ⟨lv1, lv2, lv3⟩ := wy_lv_c hlv f2
      have F2 := hF.2.1
      have e : M.2.1 (lft M) 4 = nI s0 := by rw [lv1, f3 c0 4 (by omega) (by omega) (by omega)]; exact hF.1
      have c0' : M.2.1 (lft M) 4 ≤ nI i := by rw [e]; exact nI_le (by omega) (by omega)
      rw [xg_120_83, xq_120_83, if_pos c0']
      have ei : i = s0 := by omega
      rw [ei] at hg
      exact ⟨⟨fun _ => trivial, fun y => absurd c0' y⟩, hg⟩
  | succ r ih =>
    intro i n M hi hn hg
    cases n with
    | zero => exact absurd hn (Nat.not_lt_zero _)
    | succ n =>
      obtain ⟨f1, f2, f3, f4⟩ := hg.1
      obtain ⟨lv1, lv2, lv3⟩ := wy_lv_c hlv f2
      have F2 := hF.2.1
      have e : M.2.1 (lft M) 4 = nI s0 := by rw [lv1, f3 c0 4 (by omega) (by omega) (by omega)]; exact hF.1
      have c0' : ¬ M.2.1 (lft M) 4 ≤ nI i := by rw [e]; exact nI_ge (by omega) (by omega)
      have c2 : ¬ (8192 : Int32) ≤ nI i := nI_ge (b := 8192) (by omega) (by decide)
      obtain ⟨g1, g2⟩ := wy_134 hE hr hlv hF hbd hl hV1 hV2 hR (show i < s0 by omega) hg
      obtain ⟨i1, i2⟩ := ih (i + 1) n (xm_134 M (nI i) (nI l)) (by omega) (by omega) g2
      rw [xg_120_83, xq_120_83, if_neg c0', if_neg c2, ← nI_succ]
      exact ⟨⟨fun y => absurd y c0', fun _ => ⟨fun y => absurd y c2, fun _ => ⟨g1, i1⟩⟩⟩, i2⟩
end GO
end WYF

