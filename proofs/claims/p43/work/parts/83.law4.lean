/-! the law's text: numbers, operands -/
section LAW4
theorem pd_i {v : Int32} (h : pd v = true) : ∃ e, 48 ≤ e ∧ e ≤ 57 ∧ v = nI e := by
  have hv : ¬ v < 0 ∧ 48 ≤ v ∧ v ≤ 57 := by unfold pd at h; grind
  obtain ⟨e, h1, h2⟩ := nI_of2 (x := v) (M := 57) (n := 57) (by decide) hv.1 hv.2.2
  subst h2
  refine ⟨e, ?_, h1, rfl⟩
  have : nI 48 ≤ nI e := hv.2.1
  exact (nI_leI (by omega) (by omega)).mp this
theorem pd_52 {M : ro_Mm} {v : Int32} (h : pd v = true) : xf_52 M v < 0 ∧ ¬ v = 33 ∧ ¬ v = 45 ∧ ¬ v = 40 ∧ 0 ≤ v ∧ v ≤ 127 := by
  have hv : 48 ≤ v ∧ v ≤ 57 := by unfold pd at h; grind
  refine ⟨?_, by grind, by grind, by grind, by grind, by grind⟩
  unfold xf_52
  rw [if_neg (by grind), if_neg (by grind), if_neg (by grind), if_neg (by grind), if_neg (by grind), if_neg (by grind)]
  decide
section OP
variable {bz z : Nat} {t s q : Nat → Int32}
theorem nu_loop (T : pT bz z t s q) {k o : Nat} : ∀ (d c n n2 : Nat) (A B : ro_Mm) (a x : Nat), c + d = 4 → d < n → d < n2 → ps_A z t A a k → ps_B bz z s B a k o → a ≤ z → x < 10 ^ c →
    xq_50_4 n A (nI c) (nI x) ∧ xq_225_4 n2 B (nI c) (nI x) ∧ ∃ c' a' x', (xg_50_4 n A (nI c) (nI x)).1 = nI c' ∧ (xg_50_4 n A (nI c) (nI x)).2.1 = nI x' ∧ (xg_225_4 n2 B (nI c) (nI x)).1 = nI c' ∧ (xg_225_4 n2 B (nI c) (nI x)).2.1 = nI x' ∧
      ps_A z t (xg_50_4 n A (nI c) (nI x)).2.2 a' k ∧ ps_B bz z s (xg_225_4 n2 B (nI c) (nI x)).2.2 a' k o ∧ pf_A A (xg_50_4 n A (nI c) (nI x)).2.2 ∧ pf_B B (xg_225_4 n2 B (nI c) (nI x)).2.2 ∧ pl bz A (xg_50_4 n A (nI c) (nI x)).2.2 B (xg_225_4 n2 B (nI c) (nI x)).2.2 k ∧ a' + c = a + c' ∧ c ≤ c' ∧ c' ≤ 4 ∧ x' < 10 ^ c' ∧ a' ≤ z ∧ (c' = 4 ∨ ¬ pd (pq z q a') = true) ∧ (pd (pq z q a) = true → c < 4 → c < c') ∧ (¬ pd (pq z q a) = true → c' = c) := by
  have hz := T.hz
  intro d
  induction d with
  | zero =>
    intro c n n2 A B a x hc hn hn2 hA hB ha hx
    cases n with
    | zero => omega
    | succ n =>
      cases n2 with
      | zero => omega
      | succ n2 =>
        have c0 : (4 : Int32) ≤ nI c := nI_le (a := 4) (by omega) (by omega)
        rw [xg_50_4, xq_50_4, xg_225_4, xq_225_4, if_pos c0, if_pos c0]
        exact ⟨⟨fun _ => trivial, fun y => absurd c0 y⟩, ⟨fun _ => trivial, fun y => absurd c0 y⟩, c, a, x, rfl, rfl, rfl, rfl, hA, hB, pf_A_r, pf_B_r, pl_r, rfl, Nat.le_refl _, by omega, hx, ha, Or.inl (by omega), fun _ _ => by omega, fun _ => rfl⟩
  | succ d ih =>
    intro c n n2 A B a x hc hn hn2 hA hB ha hx
    cases n with
    | zero => omega
    | succ n =>
      cases n2 with
      | zero => omega
      | succ n2 =>
        have c0 : ¬ (4 : Int32) ≤ nI c := nI_ge (b := 4) (by omega) (by omega)
        have hk := pk_A T hA.1 hA.2.1 hA.2.2.1 ha
        obtain ⟨hkB, hpB⟩ := pk_B T hB.1 hB.2.1 hB.2.2.1 ha
        by_cases j : pd (pq z q a) = true
        · have c1 : xf_49 A (xf_48 A) = true := by rw [pk_49 hk]; exact j
          have c2 : xf_195 B (xf_220 B) 48 57 = true := by rw [pk_195 (M := B) hkB]; exact j
          have p6 := pd_52 (M := A) j
          have e48 : xf_48 A = pq z q a := (pk_e hk p6.2.2.2.2.1 p6.2.2.2.2.2).mpr rfl
          have e220 : xf_220 B = pq z q a := (pk_e hkB p6.2.2.2.2.1 p6.2.2.2.2.2).mpr rfl
          obtain ⟨e, he1, he2, he⟩ := pd_i j
          have az : a < z := by
            by_cases y : a < z
            · exact y
            · unfold pq at j; rw [if_neg y] at j; exact absurd j (by decide)
          have v1 : (nI x * 10 + xf_48 A) - 48 = nI (10 * x + e - 48) := by
            rw [e48, he]
            show (nI x * nI 10 + nI e) - nI 48 = _
            rw [nI_mul, nI_add, nI_sub (by omega), Nat.mul_comm x 10]
          have v2 : ((10 : Int32) * nI x + xf_220 B) - 48 = nI (10 * x + e - 48) := by
            rw [e220, he]
            show (nI 10 * nI x + nI e) - nI 48 = _
            rw [nI_mul, nI_add, nI_sub (by omega)]
          obtain ⟨nA, fA, kA⟩ := ps_nA hA
          obtain ⟨nB, fB, kB⟩ := ps_nB hB
          have hx2 : 10 * x + e - 48 < 10 ^ (c + 1) := by rw [Nat.pow_succ]; omega
          obtain ⟨i1, i2, c', a', x', i3, i4, i5, i6, i7, i8, i9, i10, i11, i12, i13, i14, i15, i16, i17, i18, i19⟩ := ih (c + 1) n n2 (nxA A) (nxB B) (a + 1) (10 * x + e - 48) (by omega) (by omega) (by omega) nA nB (by omega) hx2
          rw [xg_50_4, xq_50_4, xg_225_4, xq_225_4, if_neg c0, if_neg c0, if_pos c1, if_pos c2, v1, v2, nI_1 c]
          exact ⟨⟨fun y => absurd y c0, fun _ => ⟨fun _ => i1, fun y => absurd c1 y⟩⟩, ⟨fun y => absurd y c0, fun _ => ⟨hpB, fun _ => ⟨hpB, i2⟩, fun y => absurd c2 y⟩⟩, c', a', x', i3, i4, i5, i6, i7, i8, pf_A_t fA i9, pf_B_t fB i10, pl_t (fun j _ => ⟨kA j, kB _ _ (by decide), kB _ _ (by decide)⟩) i11 (Nat.le_refl _), by omega, by omega, i14, i15, i16, i17, fun _ _ => by omega, fun y => absurd j y⟩
        · have c1 : ¬ xf_49 A (xf_48 A) = true := by rw [pk_49 hk]; exact j
          have c2 : ¬ xf_195 B (xf_220 B) 48 57 = true := by rw [pk_195 (M := B) hkB]; exact j
          rw [xg_50_4, xq_50_4, xg_225_4, xq_225_4, if_neg c0, if_neg c0, if_neg c1, if_neg c2]
          exact ⟨⟨fun y => absurd y c0, fun _ => ⟨fun y => absurd y c1, fun _ => trivial⟩⟩, ⟨fun y => absurd y c0, fun _ => ⟨hpB, fun y => absurd y c2, fun _ => trivial⟩⟩, c, a, x, rfl, rfl, rfl, rfl, hA, hB, pf_A_r, pf_B_r, pl_r, rfl, Nat.le_refl _, by omega, hx, ha, Or.inr j, fun y => absurd y j, fun _ => rfl⟩
/-- the reference's fault, here -/
theorem fl_224 {B : ro_Mm} {a k o : Nat} (hB : ps_B bz z s B a k o) (ha : a ≤ 1000) : pf_B B (xm_224 B) ∧ (xm_224 B).2.1 163 16 = nI a ∧ (xm_224 B).2.1 163 15 = nI a ∧ (130 : Int32) + (xm_224 B).2.1 163 18 = nI (bz + k) := by
  have f0 : ¬ 0 ≤ B.2.1 163 16 := by rw [hB.2.2.2.1]; decide
  have e : xm_224 B = ro_sI B 163 16 (nI a) := by unfold xm_224; rw [if_neg f0, hB.2.2.1]
  rw [e]
  refine ⟨⟨rfl, rfl, fun c j n1 n2 => ?_⟩, ?_, ?_, ?_⟩
  · rw [ro_rd_s, if_neg (by omega)]
  · rw [ro_rd_s, if_pos ⟨rfl, rfl⟩]
  · rw [ro_rd_s, if_neg (by omega)]; exact hB.2.2.1
  · rw [ro_rd_s, if_neg (by omega)]; exact hB.2.2.2.2.2
/-- one deeper -/
abbrev dpB (B : ro_Mm) : ro_Mm := ro_sI (ro_sI B 163 17 (B.2.1 163 17 + 1)) 163 15 (B.2.1 163 15 + 1)
theorem ps_dp {B : ro_Mm} {a k o : Nat} (hB : ps_B bz z s B a k o) : ps_B bz z s (dpB B) (a + 1) k (o + 1) ∧ pf_B B (dpB B) ∧ ∀ c j, c ≠ 163 → (dpB B).2.1 c j = B.2.1 c j := by
  obtain ⟨b1, b2, b3, b4, b5, b6⟩ := hB
  refine ⟨⟨?_, fun i hi => ?_, ?_, ?_, ?_, ?_⟩, ⟨rfl, rfl, fun c j n1 n2 => ?_⟩, fun c j hc => ?_⟩
  · rw [ro_rd_s, if_neg (by omega), ro_rd_s, if_neg (by omega)]; exact b1
  · rw [ro_sI_ne (by decide), ro_sI_ne (by decide)]; exact b2 i hi
  · rw [ro_rd_s, if_pos ⟨rfl, rfl⟩, b3, nI_1]
  · rw [ro_rd_s, if_neg (by omega), ro_rd_s, if_neg (by omega)]; exact b4
  · rw [ro_rd_s, if_neg (by omega), ro_rd_s, if_pos ⟨rfl, rfl⟩, b5, nI_1]
  · rw [ro_rd_s, if_neg (by omega), ro_rd_s, if_neg (by omega)]; exact b6
  · rw [ro_rd_s, if_neg (by omega), ro_rd_s, if_neg (by omega)]
  · rw [ro_sI_ne hc, ro_sI_ne hc]
/-- and up again -/
abbrev upB (B : ro_Mm) : ro_Mm := ro_sI B 163 17 (B.2.1 163 17 - 1)
theorem ps_up {B : ro_Mm} {a k o : Nat} (hB : ps_B bz z s B a k (o + 1)) : ps_B bz z s (upB B) a k o := by
  obtain ⟨b1, b2, b3, b4, b5, b6⟩ := hB
  refine ⟨?_, fun i hi => ?_, ?_, ?_, ?_, ?_⟩
  · rw [ro_rd_s, if_neg (by omega)]; exact b1
  · rw [ro_sI_ne (by decide)]; exact b2 i hi
  · rw [ro_rd_s, if_neg (by omega)]; exact b3
  · rw [ro_rd_s, if_neg (by omega)]; exact b4
  · rw [ro_rd_s, if_pos ⟨rfl, rfl⟩, b5]
    show nI (o + 1) - nI 1 = nI o
    rw [nI_sub (by omega)]; rfl
  · rw [ro_rd_s, if_neg (by omega)]; exact b6
theorem pf_up {B : ro_Mm} : pf_B B (upB B) ∧ (∀ j, j ≠ 17 → (upB B).2.1 163 j = B.2.1 163 j) ∧ ∀ c j, c ≠ 163 → (upB B).2.1 c j = B.2.1 c j := by
  refine ⟨⟨rfl, rfl, fun c j n1 n2 => ?_⟩, fun j hj => ?_, fun c j hc => ro_sI_ne hc⟩
  · rw [ro_rd_s, if_neg (by omega)]
  · rw [ro_rd_s, if_neg (by omega)]
variable {F46 : ro_Mm → Int32 → Int32 → Bool × ro_Mm} {P46 : ro_Mm → Int32 → Int32 → Prop} {F47 : ro_Mm → Int32 → Bool × ro_Mm} {P47 : ro_Mm → Int32 → Prop} {F219 : ro_Mm → ro_Mm} {P219 : ro_Mm → Prop} {o : Nat}
/-- a sign before an operand -/
theorem op_un (T : pT bz z t s q) (h47 : SP bz z t s q (o + 1) (fun A => F47 A (nI o + 1)) (fun A => P47 A (nI o + 1)) F219 P219) {A B : ro_Mm} {a k : Nat} (hA : ps_A z t A a k) (hB : ps_B bz z s B a k o) (hka : k ≤ a ∧ 130 ≤ bz + k) (az : a < z) {w v1 : Int32} (e1 : vp_nar .byte (v1.toInt8.toInt32) = lw_act w) (e2 : (0 : Int32) = lw_with w) (hw : ∀ ws, lw_wf ws → lw_wf (ws ++ [w])) :
    P47 (nxA A) (nI o + 1) ∧ P219 (dpB B) ∧ xp_222 (upB (F219 (dpB B))) v1 0 ∧ po bz z t s q A B a k o (if (F47 (nxA A) (nI o + 1)).1 = true then true else false, if (F47 (nxA A) (nI o + 1)).1 = true then xm_51 (F47 (nxA A) (nI o + 1)).2 w else (F47 (nxA A) (nI o + 1)).2) (xm_222 (upB (F219 (dpB B))) v1 0) := by
  have hz := T.hz
  obtain ⟨nA, fA, kA⟩ := ps_nA hA
  obtain ⟨nB, fB, kB⟩ := ps_dp hB
  obtain ⟨s1, s2, s3, s4, a', s5, s6, s7⟩ := h47 _ _ (a + 1) k nA nB (by omega) (by omega)
  obtain ⟨p1, p2, p3⟩ := pf_up (B := F219 (dpB B))
  have plN : pl bz A (nxA A) B (dpB B) k := fun j _ => ⟨kA j, kB _ _ (by decide), kB _ _ (by decide)⟩
  rcases s7 with ⟨r1, r2, ws1, r3, r4, r5, r6, r7⟩ | ⟨r1, r2, r3, r4, k', r5, r6⟩
  · have r1 : (F47 (nxA A) (nI o + 1)).1 = true := r1
    have l1 := wf_pos r3
    obtain ⟨y1, y2, y3, y4, y5, y6, y7⟩ := ps_add (w := w) (v1 := v1) (v2 := 0) r5 (ps_up r6) (by omega) e1 e2
    have plU : pl bz (F47 (nxA A) (nI o + 1)).2 (F47 (nxA A) (nI o + 1)).2 (F219 (dpB B)) (upB (F219 (dpB B))) (k + ws1.length) := fun j _ => ⟨rfl, p3 _ _ (by decide), p3 _ _ (by decide)⟩
    have l4 : (ws1 ++ [w]).length = ws1.length + 1 := List.length_append
    have e4 : k + ws1.length + 1 = k + (ws1 ++ [w]).length := by rw [l4]; omega
    rw [e4] at y1 y2
    have w2 := pw_app (pw_l r7 (pl_t plU y5 (Nat.le_refl _)) (Nat.le_refl _)) y6
    refine ⟨s1, s2, y7, ?_⟩
    rw [if_pos r1, if_pos r1]
    exact ⟨pf_A_t fA (pf_A_t s3 y3), pf_B_t fB (pf_B_t s4 (pf_B_t p1 y4)), a', by omega, s6, Or.inl ⟨rfl, pl_t plN (pl_t r2 (pl_t plU y5 (Nat.le_refl _)) (by omega)) (Nat.le_refl _), ws1 ++ [w], hw _ r3, by omega, y1, y2, w2⟩⟩
  · obtain ⟨x1, x2, x3, x4⟩ := pf_222 (B := upB (F219 (dpB B))) (by rw [p2 18 (by decide)]; exact r5) (by omega) (v1 := v1) (v2 := 0)
    have y16 := (x4 16 (by decide)).trans ((p2 16 (by decide)).trans r3)
    have y15 := (x4 15 (by decide)).trans ((p2 15 (by decide)).trans r4)
    refine ⟨s1, s2, x2, ?_⟩
    by_cases ok : (F47 (nxA A) (nI o + 1)).1 = true
    · have hd : pd (pq z q a') = true := by
        rcases r1 with r | r
        · have r : (F47 (nxA A) (nI o + 1)).1 = false := r
          rw [ok] at r; exact absurd r (by decide)
        · exact r
      obtain ⟨g1, g2⟩ := pf_51 (A := (F47 (nxA A) (nI o + 1)).2) (w := w)
      rw [if_pos ok, if_pos ok]
      exact ⟨pf_A_t fA (pf_A_t s3 g1), pf_B_t fB (pf_B_t s4 (pf_B_t p1 x1)), a', by omega, s6, Or.inr ⟨Or.inr hd, g2.trans r2, y16, y15, k' + 1, x3, by omega⟩⟩
    · rw [if_neg ok, if_neg ok]
      exact ⟨pf_A_t fA s3, pf_B_t fB (pf_B_t s4 (pf_B_t p1 x1)), a', by omega, s6, Or.inr ⟨Or.inl rfl, r2, y16, y15, k' + 1, x3, by omega⟩⟩
/-- what is in brackets -/
theorem op_in (T : pT bz z t s q) (h46 : SP bz z t s q (o + 1) (fun A => F46 A 0 (nI o + 1)) (fun A => P46 A 0 (nI o + 1)) (xm_214 F219) (xp_214 F219 P219)) {A B : ro_Mm} {a k : Nat} (hA : ps_A z t A a k) (hB : ps_B bz z s B a k o) (hka : k ≤ a ∧ 130 ≤ bz + k) (az : a < z) :
    xp_53 F46 P46 F47 P47 A (nI o + 1) ∧ xp_214 F219 P219 (dpB B) ∧ xp_220 (xm_214 F219 (dpB B)) ∧ po bz z t s q A B a k o (xf_53 F46 F47 A (nI o + 1), xm_53 F46 F47 A (nI o + 1)) (if (xm_214 F219 (dpB B)).2.1 163 16 < 0 then (if xf_220 (xm_214 F219 (dpB B)) = 41 then (ro_sI (ro_sI (xm_214 F219 (dpB B)) 163 15 (((xm_214 F219 (dpB B)).2.1 163 15) + (1 : Int32))) 163 17 (((xm_214 F219 (dpB B)).2.1 163 17) - (1 : Int32))) else xm_224 (xm_214 F219 (dpB B))) else xm_214 F219 (dpB B)) := by
  have hz := T.hz
  obtain ⟨nA, fA, kA⟩ := ps_nA hA
  obtain ⟨nB, fB, kB⟩ := ps_dp hB
  obtain ⟨s1, s2, s3, s4, a', s5, s6, s7⟩ := h46 _ _ (a + 1) k nA nB (by omega) (by omega)
  have plN : pl bz A (nxA A) B (dpB B) k := fun j _ => ⟨kA j, kB _ _ (by decide), kB _ _ (by decide)⟩
  have p53 : xp_53 F46 P46 F47 P47 A (nI o + 1) := ⟨s1, trivial⟩
  rcases s7 with ⟨r1, r2, ws1, r3, r4, r5, r6, r7⟩ | ⟨r1, r2, r3, r4, k', r5, r6⟩
  · have r1 : (F46 (nxA A) 0 (nI o + 1)).1 = true := r1
    have hk : pk (xf_48 (F46 (nxA A) 0 (nI o + 1)).2) (pq z q a') := pk_A T r5.1 r5.2.1 r5.2.2.1 s6
    obtain ⟨hkB, hpB⟩ := pk_B T r6.1 r6.2.1 r6.2.2.1 s6
    have f0 : (xm_214 F219 (dpB B)).2.1 163 16 < 0 := by rw [r6.2.2.2.1]; decide
    refine ⟨p53, s2, hpB, ?_⟩
    rw [if_pos f0]
    by_cases c : pq z q a' = 41
    · have az' : a' < z := by
        by_cases y : a' < z
        · exact y
        · unfold pq at c; rw [if_neg y] at c; exact absurd c (by decide)
      have c1 : xf_48 (F46 (nxA A) 0 (nI o + 1)).2 = 41 := (pk_e hk (by decide) (by decide)).mpr c
      have c2 : xf_220 (xm_214 F219 (dpB B)) = 41 := (pk_e hkB (by decide) (by decide)).mpr c
      obtain ⟨mA, gA, lA⟩ := ps_nA r5
      obtain ⟨mB, gB, lB⟩ := ps_nB r6
      have mB2 := ps_up mB
      obtain ⟨p1, p2, p3⟩ := pf_up (B := nxB (xm_214 F219 (dpB B)))
      have eU : ro_sI (ro_sI (xm_214 F219 (dpB B)) 163 15 (((xm_214 F219 (dpB B)).2.1 163 15) + (1 : Int32))) 163 17 (((xm_214 F219 (dpB B)).2.1 163 17) - (1 : Int32)) = upB (nxB (xm_214 F219 (dpB B))) := rfl
      unfold xf_53 xm_53
      rw [if_pos r1, if_pos r1, if_pos c1, if_pos c1, if_pos c2, eU]
      have plU : pl bz (F46 (nxA A) 0 (nI o + 1)).2 (nxA (F46 (nxA A) 0 (nI o + 1)).2) (xm_214 F219 (dpB B)) (upB (nxB (xm_214 F219 (dpB B)))) (k + ws1.length) := fun j _ => ⟨lA j, (p3 _ _ (by decide)).trans (lB _ _ (by decide)), (p3 _ _ (by decide)).trans (lB _ _ (by decide))⟩
      exact ⟨pf_A_t fA (pf_A_t s3 gA), pf_B_t fB (pf_B_t s4 (pf_B_t gB p1)), a' + 1, by omega, by omega, Or.inl ⟨rfl, pl_t plN (pl_t r2 plU (by omega)) (Nat.le_refl _), ws1, r3, by omega, mA, mB2, pw_l r7 plU (Nat.le_refl _)⟩⟩
    · have c1 : ¬ xf_48 (F46 (nxA A) 0 (nI o + 1)).2 = 41 := fun e => c ((pk_e hk (by decide) (by decide)).mp e)
      have c2 : ¬ xf_220 (xm_214 F219 (dpB B)) = 41 := fun e => c ((pk_e hkB (by decide) (by decide)).mp e)
      obtain ⟨g1, g2, g3, g4⟩ := fl_224 r6 (by omega)
      unfold xf_53 xm_53
      rw [if_pos r1, if_pos r1, if_neg c1, if_neg c1, if_neg c2]
      exact ⟨pf_A_t fA s3, pf_B_t fB (pf_B_t s4 g1), a', by omega, s6, Or.inr ⟨Or.inl rfl, r5.2.2.1, g2, g3, k + ws1.length, g4, by omega⟩⟩
  · have f0 : ¬ (xm_214 F219 (dpB B)).2.1 163 16 < 0 := by rw [r3]; exact nI_pos (by omega)
    obtain ⟨_, hpB⟩ := pk_B T (B := xm_214 F219 (dpB B)) (by rw [s4.2.2 163 14 (by omega) (by omega)]; exact nB.1) (fun i hi => by rw [s4.2.2 173 i (by omega) (by omega)]; exact nB.2.1 i hi) r4 s6
    refine ⟨p53, s2, hpB, ?_⟩
    rw [if_neg f0]
    by_cases ok : (F46 (nxA A) 0 (nI o + 1)).1 = true
    · have hd : pd (pq z q a') = true := by
        rcases r1 with r | r
        · have r : (F46 (nxA A) 0 (nI o + 1)).1 = false := r
          rw [ok] at r; exact absurd r (by decide)
        · exact r
      have hk : pk (xf_48 (F46 (nxA A) 0 (nI o + 1)).2) (pq z q a') := pk_A T (by rw [s3.2.2 16 5 (by omega) (by decide)]; exact nA.1) (fun i hi => by rw [s3.2.2 17 i (by omega) (by decide)]; exact nA.2.1 i hi) r2 s6
      have c1 : ¬ xf_48 (F46 (nxA A) 0 (nI o + 1)).2 = 41 := fun e => (pd_no (M := A) (l := 0) hd).2.1 ((pk_e hk (by decide) (by decide)).mp e)
      unfold xf_53 xm_53
      rw [if_pos ok, if_pos ok, if_neg c1, if_neg c1]
      exact ⟨pf_A_t fA s3, pf_B_t fB s4, a', by omega, s6, Or.inr ⟨Or.inl rfl, r2, r3, r4, k', r5, by omega⟩⟩
    · unfold xf_53 xm_53
      rw [if_neg ok, if_neg ok]
      exact ⟨pf_A_t fA s3, pf_B_t fB s4, a', by omega, s6, Or.inr ⟨Or.inl rfl, r2, r3, r4, k', r5, by omega⟩⟩
theorem op_one (T : pT bz z t s q) (ho : o ≤ 6) (h47 : o < 6 → SP bz z t s q (o + 1) (fun A => F47 A (nI o + 1)) (fun A => P47 A (nI o + 1)) F219 P219) (h46 : o < 6 → SP bz z t s q (o + 1) (fun A => F46 A 0 (nI o + 1)) (fun A => P46 A 0 (nI o + 1)) (xm_214 F219) (xp_214 F219 P219)) :
    SP bz z t s q o (fun A => (xfb_47 F46 F47 A (nI o), xmb_47 F46 F47 A (nI o))) (fun A => xpb_47 F46 P46 F47 P47 A (nI o)) (xmb_219 F219) (xpb_219 F219 P219) := by
  intro A B a k hA hB hka ha
  have hz := T.hz
  have hk := pk_A T hA.1 hA.2.1 hA.2.2.1 ha
  obtain ⟨hkB, hpB⟩ := pk_B T hB.1 hB.2.1 hB.2.2.1 ha
  obtain ⟨n1, n2, c', a', x', n3, n4, n5, n6, n7, n8, n9, n10, n11, n12, n13, n14, n15, n16, n17, n18, n19⟩ := nu_loop T (k := k) (o := o) 4 0 lp_N lp_N A B a 0 rfl (lp_hug (by omega)) (lp_hug (by omega)) hA hB ha (by decide)
  rw [nI_0] at n1 n2 n3 n4 n5 n6 n7 n8 n9 n10 n11
  dsimp only
  by_cases j : pd (pq z q a) = true
  · -- a number
    have p6 := pd_52 (M := A) j
    have c1 : xf_49 A (xf_48 A) = true := by rw [pk_49 hk]; exact j
    have b1 : xf_221 B (xf_220 B) < 0 := by rw [pk_221 (M := A) hkB]; exact p6.1
    have b2 : ¬ xf_220 B = 33 := fun e => p6.2.1 ((pk_e hkB (by decide) (by decide)).mp e)
    have b3 : ¬ xf_220 B = 45 := fun e => p6.2.2.1 ((pk_e hkB (by decide) (by decide)).mp e)
    have b4 : ¬ xf_220 B = 40 := fun e => p6.2.2.2.1 ((pk_e hkB (by decide) (by decide)).mp e)
    have hc' := n18 j (by decide)
    have p50 : xp_50 A := ⟨n1, trivial⟩
    have e219 : xmb_219 F219 B = xm_225 B := by unfold xmb_219; rw [if_pos b1, if_neg b2, if_neg b3, if_neg b4]
    have q219 : xp_225 B → xpb_219 F219 P219 B := fun g => by
      unfold xpb_219
      exact ⟨hpB, fun _ => ⟨fun y => absurd y b2, fun _ => ⟨fun y => absurd y b3, fun _ => ⟨fun y => absurd y b4, fun _ => ⟨g, trivial⟩⟩⟩⟩, fun y => absurd b1 y⟩
    have p47 : xpb_47 F46 P46 F47 P47 A (nI o) := by unfold xpb_47; exact ⟨fun _ => ⟨p50, trivial⟩, fun y => absurd c1 y⟩
    have e47 : xfb_47 F46 F47 A (nI o) = true ∧ xmb_47 F46 F47 A (nI o) = xm_51 (xg_50_4 lp_N A 0 0).2.2 (nI x') := by
      unfold xfb_47 xmb_47 xm_50
      rw [if_pos c1, if_pos c1, n4]; exact ⟨rfl, rfl⟩
    have cz : ¬ nI c' = 0 := nI_ne0 (by omega) (by omega)
    have x4 : 10 ^ c' ≤ 10 ^ 4 := Nat.pow_le_pow_right (by decide) n14
    have e10 : (10 : Nat) ^ 4 = 10000 := by decide
    have x0 : (0 : Int32) ≤ nI x' := nI_pos' (by omega)
    have la : lw_act (nI x') = 1 := by unfold lw_act; rw [if_pos x0]
    have lb : lw_with (nI x') = nI x' := by unfold lw_with; rw [if_pos x0]
    obtain ⟨hkB2, hpB2⟩ := pk_B T n8.1 n8.2.1 n8.2.2.1 n16
    rw [e219]
    by_cases dg : pd (pq z q a') = true
    · -- too many digits
      have c3 : xf_195 (xg_225_4 lp_N B 0 0).2.2 (xf_220 (xg_225_4 lp_N B 0 0).2.2) 48 57 = true := by rw [pk_195 (M := A) hkB2]; exact dg
      obtain ⟨g1, g2, g3, g4⟩ := fl_224 n8 (by omega)
      obtain ⟨y1, y2, y3, y4⟩ := pf_222 g4 (by omega) (v1 := 1) (v2 := nI x')
      have e225 : xm_225 B = xm_222 (xm_224 (xg_225_4 lp_N B 0 0).2.2) 1 (nI x') := by unfold xm_225; rw [n5, if_neg cz, if_pos c3, n6]
      have p225 : xp_225 B := by
        unfold xp_225; rw [n5, n6]
        exact ⟨n2, fun y => absurd y cz, fun _ => ⟨hpB2, fun _ => ⟨y2, trivial⟩, fun y => absurd c3 y⟩⟩
      obtain ⟨u1, u2⟩ := pf_51 (A := (xg_50_4 lp_N A 0 0).2.2) (w := nI x')
      refine ⟨p47, q219 p225, ?_⟩
      rw [e225, e47.1, e47.2]
      exact ⟨pf_A_t n9 u1, pf_B_t n10 (pf_B_t g1 y1), a', by omega, n16, Or.inr ⟨Or.inr dg, u2.trans n7.2.2.1, (y4 16 (by decide)).trans g2, (y4 15 (by decide)).trans g3, k + 1, y3, by omega⟩⟩
    · have c3 : ¬ xf_195 (xg_225_4 lp_N B 0 0).2.2 (xf_220 (xg_225_4 lp_N B 0 0).2.2) 48 57 = true := by rw [pk_195 (M := A) hkB2]; exact dg
      obtain ⟨y1, y2, y3, y4, y5, y6, y7⟩ := ps_add (w := nI x') (v1 := 1) (v2 := nI x') n7 n8 (by omega) (by rw [la]; rfl) lb.symm
      have e225 : xm_225 B = xm_222 (xg_225_4 lp_N B 0 0).2.2 1 (nI x') := by unfold xm_225; rw [n5, if_neg cz, if_neg c3, n6]
      have p225 : xp_225 B := by
        unfold xp_225; rw [n5, n6]
        exact ⟨n2, fun y => absurd y cz, fun _ => ⟨hpB2, fun y => absurd y c3, fun _ => ⟨y7, trivial⟩⟩⟩
      refine ⟨p47, q219 p225, ?_⟩
      rw [e225, e47.1, e47.2]
      exact ⟨pf_A_t n9 y3, pf_B_t n10 y4, a', by omega, n16, Or.inl ⟨rfl, pl_t n11 y5 (Nat.le_refl _), [nI x'], wf_num x0, by show a + 1 ≤ a'; omega, y1, y2, y6⟩⟩
  · have c1 : ¬ xf_49 A (xf_48 A) = true := by rw [pk_49 hk]; exact j
    by_cases nm : xf_52 A (pq z q a) < 0
    · have c2 : xf_52 A (xf_48 A) < 0 := by rw [pk_52 hk]; exact nm
      have b1 : xf_221 B (xf_220 B) < 0 := by rw [pk_221 (M := A) hkB]; exact nm
      -- nothing that could be: a fault here, with a number of no digits
      have NON : ¬ pq z q a = 33 → ¬ pq z q a = 45 → ¬ pq z q a = 40 → xmb_219 F219 B = xm_222 (xm_224 B) 1 0 ∧ xpb_219 F219 P219 B ∧ po bz z t s q A B a k o (false, A) (xm_222 (xm_224 B) 1 0) := fun m1 m2 m3 => by
        have b2 : ¬ xf_220 B = 33 := fun e => m1 ((pk_e hkB (by decide) (by decide)).mp e)
        have b3 : ¬ xf_220 B = 45 := fun e => m2 ((pk_e hkB (by decide) (by decide)).mp e)
        have b4 : ¬ xf_220 B = 40 := fun e => m3 ((pk_e hkB (by decide) (by decide)).mp e)
        have c2 : ¬ xf_195 B (xf_220 B) 48 57 = true := by rw [pk_195 (M := A) hkB]; exact j
        obtain ⟨m, em⟩ := lp_9
        have c0 : ¬ (4 : Int32) ≤ 0 := by decide
        have g0 : xg_225_4 lp_N B 0 0 = (0, 0, B) := by rw [em, xg_225_4, if_neg c0, if_neg c2]
        obtain ⟨g1, g2, g3, g4⟩ := fl_224 hB (by omega)
        obtain ⟨y1, y2, y3, y4⟩ := pf_222 g4 (by omega) (v1 := 1) (v2 := 0)
        have z0 : (0 : Int32) = 0 := rfl
        refine ⟨?_, ?_, ?_⟩
        · unfold xmb_219 xm_225
          rw [if_pos b1, if_neg b2, if_neg b3, if_neg b4, g0, if_pos z0]
        · unfold xpb_219 xp_225
          rw [g0]
          exact ⟨hpB, fun _ => ⟨fun y => absurd y b2, fun _ => ⟨fun y => absurd y b3, fun _ => ⟨fun y => absurd y b4, fun _ => ⟨⟨n2, fun _ => ⟨y2, trivial⟩, fun y => absurd z0 y⟩, trivial⟩⟩⟩⟩, fun y => absurd b1 y⟩
        · exact ⟨pf_A_r, pf_B_t g1 y1, a, Nat.le_refl _, ha, Or.inr ⟨Or.inl rfl, hA.2.2.1, (y4 16 (by decide)).trans g2, (y4 15 (by decide)).trans g3, k + 1, y3, by omega⟩⟩
      by_cases o6 : o < 6
      · have c3 : nI o < 6 := nI_lt (b := 6) o6 (by omega)
        have d1 : ¬ B.2.1 163 17 = 6 := by
          rw [hB.2.2.2.2.1]
          exact fun e => absurd ((nI_eq (b := 6) (by omega) (by omega)).mp e) (by omega)
        have d2 : xf_223 B = true := by unfold xf_223; rw [if_neg d1]
        have d3 : xm_223 B = dpB B := by unfold xm_223; rw [if_neg d1]
        have az : ∀ v : Int32, 0 ≤ v → pq z q a = v → a < z := fun v h0 e => by
          by_cases y : a < z
          · exact y
          · unfold pq at e; rw [if_neg y] at e; rw [← e] at h0; exact absurd h0 (by decide)
        by_cases m1 : pq z q a = 33
        · have e48 : xf_48 A = 33 := (pk_e hk (by decide) (by decide)).mpr m1
          have e220 : xf_220 B = 33 := (pk_e hkB (by decide) (by decide)).mpr m1
          obtain ⟨s1, s2, s3, s4⟩ := op_un T (h47 o6) hA hB hka (az 33 (by decide) m1) (w := -33) (v1 := 3) rfl rfl (fun ws => wf_not)
          have k1 : ¬ (33 : Int32) = 40 := by decide
          have e219 : xmb_219 F219 B = xm_222 (upB (F219 (dpB B))) 3 0 := by
            unfold xmb_219
            rw [if_pos b1, if_pos e220, if_pos d2, d3]
          have q219 : xpb_219 F219 P219 B := by
            unfold xpb_219
            rw [d3]
            exact ⟨hpB, fun _ => ⟨fun _ => ⟨fun _ => ⟨s2, s3, trivial⟩, fun y => absurd d2 y⟩, fun y => absurd e220 y⟩, fun y => absurd b1 y⟩
          have n40 : ¬ xf_48 A = 40 := by rw [e48]; decide
          refine ⟨?_, q219, ?_⟩
          · unfold xpb_47
            exact ⟨fun y => absurd y c1, fun _ => ⟨fun _ => ⟨fun _ => ⟨fun y => absurd y n40, fun _ => ⟨fun _ => ⟨s1, trivial⟩, fun y => absurd e48 y⟩⟩, fun y => absurd c3 y⟩, fun y => absurd c2 y⟩⟩
          · unfold xfb_47 xmb_47
            rw [e219, if_neg c1, if_neg c1, if_pos c2, if_pos c2, if_pos c3, if_pos c3, if_neg n40, if_neg n40, if_pos e48, if_pos e48]
            exact s4
        · by_cases m2 : pq z q a = 45
          · have e48 : xf_48 A = 45 := (pk_e hk (by decide) (by decide)).mpr m2
            have e220 : xf_220 B = 45 := (pk_e hkB (by decide) (by decide)).mpr m2
            obtain ⟨s1, s2, s3, s4⟩ := op_un T (h47 o6) hA hB hka (az 45 (by decide) m2) (w := -126) (v1 := 4) rfl rfl (fun ws => wf_neg)
            have n33 : ¬ xf_220 B = 33 := by rw [e220]; decide
            have e219 : xmb_219 F219 B = xm_222 (upB (F219 (dpB B))) 4 0 := by
              unfold xmb_219
              rw [if_pos b1, if_neg n33, if_pos e220, if_pos d2, d3]
            have q219 : xpb_219 F219 P219 B := by
              unfold xpb_219
              rw [d3]
              exact ⟨hpB, fun _ => ⟨fun y => absurd y n33, fun _ => ⟨fun _ => ⟨fun _ => ⟨s2, s3, trivial⟩, fun y => absurd d2 y⟩, fun y => absurd e220 y⟩⟩, fun y => absurd b1 y⟩
            have n40 : ¬ xf_48 A = 40 := by rw [e48]; decide
            have n33a : ¬ xf_48 A = 33 := by rw [e48]; decide
            refine ⟨?_, q219, ?_⟩
            · unfold xpb_47
              exact ⟨fun y => absurd y c1, fun _ => ⟨fun _ => ⟨fun _ => ⟨fun y => absurd y n40, fun _ => ⟨fun y => absurd y n33a, fun _ => ⟨fun _ => ⟨s1, trivial⟩, fun y => absurd e48 y⟩⟩⟩, fun y => absurd c3 y⟩, fun y => absurd c2 y⟩⟩
            · unfold xfb_47 xmb_47
              rw [e219, if_neg c1, if_neg c1, if_pos c2, if_pos c2, if_pos c3, if_pos c3, if_neg n40, if_neg n40, if_neg n33a, if_neg n33a, if_pos e48, if_pos e48]
              exact s4
          · by_cases m3 : pq z q a = 40
            · have e48 : xf_48 A = 40 := (pk_e hk (by decide) (by decide)).mpr m3
              have e220 : xf_220 B = 40 := (pk_e hkB (by decide) (by decide)).mpr m3
              obtain ⟨s1, s2, s3, s4⟩ := op_in T (P47 := P47) (F47 := F47) (h46 o6) hA hB hka (az 40 (by decide) m3)
              have n33 : ¬ xf_220 B = 33 := by rw [e220]; decide
              have n45 : ¬ xf_220 B = 45 := by rw [e220]; decide
              refine ⟨?_, ?_, ?_⟩
              · unfold xpb_47
                exact ⟨fun y => absurd y c1, fun _ => ⟨fun _ => ⟨fun _ => ⟨fun _ => ⟨s1, trivial⟩, fun y => absurd e48 y⟩, fun y => absurd c3 y⟩, fun y => absurd c2 y⟩⟩
              · unfold xpb_219
                rw [d3]
                exact ⟨hpB, fun _ => ⟨fun y => absurd y n33, fun _ => ⟨fun y => absurd y n45, fun _ => ⟨fun _ => ⟨fun _ => ⟨s2, fun _ => ⟨s3, trivial⟩, fun _ => trivial⟩, fun y => absurd d2 y⟩, fun y => absurd e220 y⟩⟩⟩, fun y => absurd b1 y⟩
              · unfold xfb_47 xmb_47 xmb_219
                rw [if_neg c1, if_neg c1, if_pos c2, if_pos c2, if_pos c3, if_pos c3, if_pos e48, if_pos e48, if_pos b1, if_neg n33, if_neg n45, if_pos e220, if_pos d2, d3]
                exact s4
            · obtain ⟨u1, u2, u3⟩ := NON m1 m2 m3
              have n40 : ¬ xf_48 A = 40 := fun e => m3 ((pk_e hk (by decide) (by decide)).mp e)
              have n33 : ¬ xf_48 A = 33 := fun e => m1 ((pk_e hk (by decide) (by decide)).mp e)
              have n45 : ¬ xf_48 A = 45 := fun e => m2 ((pk_e hk (by decide) (by decide)).mp e)
              refine ⟨?_, u2, ?_⟩
              · unfold xpb_47
                exact ⟨fun y => absurd y c1, fun _ => ⟨fun _ => ⟨fun _ => ⟨fun y => absurd y n40, fun _ => ⟨fun y => absurd y n33, fun _ => ⟨fun y => absurd y n45, fun _ => trivial⟩⟩⟩, fun y => absurd c3 y⟩, fun y => absurd c2 y⟩⟩
              · unfold xfb_47 xmb_47
                rw [u1, if_neg c1, if_neg c1, if_pos c2, if_pos c2, if_pos c3, if_pos c3, if_neg n40, if_neg n40, if_neg n33, if_neg n33, if_neg n45, if_neg n45]
                exact u3
      · -- too deep
        have eo : o = 6 := by omega
        subst eo
        have c3 : ¬ nI 6 < 6 := by decide
        have d1 : B.2.1 163 17 = 6 := hB.2.2.2.2.1
        have d2 : ¬ xf_223 B = true := by unfold xf_223; rw [if_pos d1]; decide
        have d3 : xm_223 B = xm_224 B := by unfold xm_223; rw [if_pos d1]
        have p47 : xpb_47 F46 P46 F47 P47 A (nI 6) := by
          unfold xpb_47
          exact ⟨fun y => absurd y c1, fun _ => ⟨fun _ => ⟨fun y => absurd y c3, fun _ => trivial⟩, fun y => absurd c2 y⟩⟩
        have e47 : xfb_47 F46 F47 A (nI 6) = false ∧ xmb_47 F46 F47 A (nI 6) = A := by
          unfold xfb_47 xmb_47
          rw [if_neg c1, if_neg c1, if_pos c2, if_pos c2, if_neg c3, if_neg c3]; exact ⟨rfl, rfl⟩
        rw [e47.1, e47.2]
        obtain ⟨g1, g2, g3, g4⟩ := fl_224 hB (by omega)
        have DEEP : po bz z t s q A B a k 6 (false, A) (xm_224 B) := ⟨pf_A_r, g1, a, Nat.le_refl _, ha, Or.inr ⟨Or.inl rfl, hA.2.2.1, g2, g3, k, g4, by omega⟩⟩
        by_cases m1 : pq z q a = 33
        · have e220 : xf_220 B = 33 := (pk_e hkB (by decide) (by decide)).mpr m1
          refine ⟨p47, ?_, ?_⟩
          · unfold xpb_219
            exact ⟨hpB, fun _ => ⟨fun _ => ⟨fun y => absurd y d2, fun _ => trivial⟩, fun y => absurd e220 y⟩, fun y => absurd b1 y⟩
          · unfold xmb_219
            rw [if_pos b1, if_pos e220, if_neg d2, d3]; exact DEEP
        · by_cases m2 : pq z q a = 45
          · have e220 : xf_220 B = 45 := (pk_e hkB (by decide) (by decide)).mpr m2
            have n33 : ¬ xf_220 B = 33 := by rw [e220]; decide
            refine ⟨p47, ?_, ?_⟩
            · unfold xpb_219
              exact ⟨hpB, fun _ => ⟨fun y => absurd y n33, fun _ => ⟨fun _ => ⟨fun y => absurd y d2, fun _ => trivial⟩, fun y => absurd e220 y⟩⟩, fun y => absurd b1 y⟩
            · unfold xmb_219
              rw [if_pos b1, if_neg n33, if_pos e220, if_neg d2, d3]; exact DEEP
          · by_cases m3 : pq z q a = 40
            · have e220 : xf_220 B = 40 := (pk_e hkB (by decide) (by decide)).mpr m3
              have n33 : ¬ xf_220 B = 33 := by rw [e220]; decide
              have n45 : ¬ xf_220 B = 45 := by rw [e220]; decide
              refine ⟨p47, ?_, ?_⟩
              · unfold xpb_219
                exact ⟨hpB, fun _ => ⟨fun y => absurd y n33, fun _ => ⟨fun y => absurd y n45, fun _ => ⟨fun _ => ⟨fun y => absurd y d2, fun _ => trivial⟩, fun y => absurd e220 y⟩⟩⟩, fun y => absurd b1 y⟩
              · unfold xmb_219
                rw [if_pos b1, if_neg n33, if_neg n45, if_pos e220, if_neg d2, d3]; exact DEEP
            · obtain ⟨u1, u2, u3⟩ := NON m1 m2 m3
              exact ⟨p47, u2, by rw [u1]; exact u3⟩
    · -- a name
      obtain ⟨i, hi, e52, l1, l2, l3, l4, l5, l6⟩ := pk_nm nm
      have c2 : ¬ xf_52 A (xf_48 A) < 0 := by rw [pk_52 hk]; exact nm
      have e221 : xf_221 B (xf_220 B) = nI i := by rw [pk_221 (M := A) hkB]; exact e52
      have b1 : ¬ xf_221 B (xf_220 B) < 0 := by rw [e221]; exact nI_pos (by omega)
      have e48 : xf_48 A = pq z q a := (pk_e hk l5 l6).mpr rfl
      have az : a < z := by
        by_cases y : a < z
        · exact y
        · unfold pq at l5; rw [if_neg y] at l5; exact absurd l5 (by decide)
      obtain ⟨nA, fA, kA⟩ := ps_nA hA
      obtain ⟨nB, fB, kB⟩ := ps_nB hB
      obtain ⟨y1, y2, y3, y4, y5, y6, y7⟩ := ps_add (w := -(pq z q a)) (v1 := 2) (v2 := nI i) hA hB (by omega) (by rw [l2]; rfl) l3.symm
      obtain ⟨w1, w2, w3, w4, w5, w6, _⟩ := ps_add (w := -(pq z q a)) (v1 := 2) (v2 := nI i) nA nB (by omega) (by rw [l2]; rfl) l3.symm
      obtain ⟨mB, gB, lB⟩ := ps_nB y2
      have eA : xmb_47 F46 F47 A (nI o) = xm_51 (nxA A) (-(pq z q a)) := by
        unfold xmb_47; rw [if_neg c1, if_neg c2, e48]
      have eF : xfb_47 F46 F47 A (nI o) = true := by
        unfold xfb_47; rw [if_neg c1, if_neg c2]
      have eB : xmb_219 F219 B = nxB (xm_222 B 2 (nI i)) := by
        unfold xmb_219; rw [if_neg b1, e221]
      refine ⟨?_, ?_, ?_⟩
      · unfold xpb_47
        exact ⟨fun y => absurd y c1, fun _ => ⟨fun y => absurd y c2, fun _ => trivial⟩⟩
      · unfold xpb_219
        rw [e221]
        rw [e221] at b1
        exact ⟨hpB, fun y => absurd y b1, fun _ => ⟨y7, trivial⟩⟩
      · rw [eA, eF, eB]
        refine ⟨pf_A_t fA w3, pf_B_t y4 gB, a + 1, by omega, by omega, Or.inl ⟨rfl, fun j hj => ⟨?_, ?_, ?_⟩, [-(pq z q a)], wf_nm l4 l1, Nat.le_refl _, w1, mB, fun i hi => ⟨(w6 i hi).1, ?_, ?_⟩⟩⟩
        · exact ((w5 j hj).1).trans (kA j)
        · exact (lB _ _ (by decide)).trans (y5 j hj).2.1
        · exact (lB _ _ (by decide)).trans (y5 j hj).2.2
        · exact (lB _ _ (by decide)).trans (y6 i hi).2.1
        · exact (lB _ _ (by decide)).trans (y6 i hi).2.2
end OP
/-- operands of any depth -/
theorem op_all {bz z : Nat} {t s q : Nat → Int32} (T : pT bz z t s q) : ∀ (d o n m : Nat), o + d = 6 → 7 * (d + 1) ≤ n → d + 1 ≤ m → SP bz z t s q o (fun A => (xr_par n).2 A (nI o)) (fun A => (xpr_par n).2 A (nI o)) (xr_opd m) (xpr_opd m) := by
  intro d
  induction d with
  | zero =>
    intro o n m ho hn hm
    cases n with
    | zero => omega
    | succ n =>
      cases m with
      | zero => omega
      | succ m => exact op_one T (by omega) (fun y => absurd y (by omega)) (fun y => absurd y (by omega))
  | succ d ih =>
    intro o n m ho hn hm
    cases n with
    | zero => omega
    | succ n =>
      cases m with
      | zero => omega
      | succ m =>
        have h1 := ih (o + 1) n m (by omega) (by omega) (by omega)
        have h2 := lv_top T (ih (o + 1) (n - 6) m (by omega) (by omega) (by omega))
        rw [show n - 6 + 6 = n by omega] at h2
        rw [nI_0] at h2
        rw [← nI_1 o] at h1 h2
        exact op_one T (by omega) (fun _ => h1) (fun _ => h2)
/-- a whole value, outermost -/
theorem op_top {bz z : Nat} {t s q : Nat → Int32} (T : pT bz z t s q) : SP bz z t s q 0 (fun A => (xf_46 A 0 0, xm_46 A 0 0)) (fun A => xp_46 A 0 0) xm_214o xp_214o := by
  have h := lv_top T (op_all T 6 0 (rc_N - 6) rc_N rfl (by rw [rc_N_eq]; omega) (by rw [rc_N_eq]; omega))
  rw [show rc_N - 6 + 6 = rc_N by rw [rc_N_eq]] at h
  rw [nI_0] at h
  exact h
end LAW4

