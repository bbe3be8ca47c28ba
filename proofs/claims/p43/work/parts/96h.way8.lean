/-! ways behind an evening: the windows as they are laid, from what is told back to the start -/
section WYH
theorem wy_max (x y : Int) (h1 : -1000 ≤ x) (h2 : x ≤ 1000) (h3 : -1000 ≤ y) (h4 : y ≤ 1000) : ro_max (iI x) (iI y) = iI (max x y) ∧ ro_min (iI x) (iI y) = iI (min x y) := by
  unfold ro_max ro_min
  constructor
  · by_cases h : x < y
    · rw [if_pos ((iI_lt h1 h2 h3 h4).mpr h), Int.max_eq_right (by omega)]
    · rw [if_neg (fun q => h ((iI_lt h1 h2 h3 h4).mp q)), Int.max_eq_left (by omega)]
  · by_cases h : y < x
    · rw [if_pos ((iI_lt h3 h4 h1 h2).mpr h), Int.min_eq_right (by omega)]
    · rw [if_neg (fun q => h ((iI_lt h3 h4 h1 h2).mp q)), Int.min_eq_left (by omega)]
/-- a pair of rows -/
def wy_c2 (M : ro_Mm) (c0 c1 : Nat) (w : Nat → Int × Int) : Prop := ∀ n, n < 12 → M.2.1 c0 n = iI (w n).1 ∧ M.2.1 c1 n = iI (w n).2 ∧ -150 ≤ (w n).1 ∧ (w n).1 ≤ 150 ∧ -150 ≤ (w n).2 ∧ (w n).2 ≤ 150
def wy_fp (c0 c1 : Nat) (M M2 : ro_Mm) : Prop := M2.1 = M.1 ∧ M2.2.2 = M.2.2 ∧ ∀ x j, x ≠ c0 → x ≠ c1 → M2.2.1 x j = M.2.1 x j
theorem wy_126 {M : ro_Mm} {c0 c1 : Nat} (hc : c0 ≠ c1) {w : Nat → Int × Int} (h : wy_c2 M c0 c1 w) {n : Nat} (hn : n < 12) {bl bh mo : Int} (h1 : -1 ≤ bl) (h2 : bl ≤ 1) (h3 : -1 ≤ bh) (h4 : bh ≤ 1) (h5 : 0 ≤ mo) (h6 : mo ≤ 20) : wy_c2 (xm_126 M c0 c1 (nI n) (iI bl) (iI bh) (iI mo)) c0 c1 (wy_up w n (wy_bd bl bh mo (w n))) ∧ wy_fp c0 c1 M (xm_126 M c0 c1 (nI n) (iI bl) (iI bh) (iI mo)) := by
  obtain ⟨e1, e2, b1, b2, b3, b4⟩ := h n hn
  have c3 : ¬ nI n < 0 := nI_pos (by omega)
  have c4 : nI n < (12 : Int32) := nI_lt (b := 12) hn (by decide)
  have c5 : ¬ (12 : Int32) ≤ nI n := nI_ge (b := 12) hn (by decide)
  have en : (nI n).toNatClampNeg = n := nI_clamp (by omega)
  have z0 : (0 : Int32) = iI 0 := rfl
  have m1 : ro_max (0 : Int32) (M.2.1 c0 n + iI bl) = iI (max 0 ((w n).1 + bl)) := by rw [e1, iI_add, z0]; exact (wy_max _ _ (by omega) (by omega) (by omega) (by omega)).1
  have m2 : ro_min (iI mo) (M.2.1 c1 n + iI bh) = iI (min mo ((w n).2 + bh)) := by rw [e2, iI_add]; exact (wy_max _ _ (by omega) (by omega) (by omega) (by omega)).2
  have lt : iI (max 0 ((w n).1 + bl)) ≤ iI (min mo ((w n).2 + bh)) ↔ max 0 ((w n).1 + bl) ≤ min mo ((w n).2 + bh) := iI_le (by omega) (by omega) (by omega) (by omega)
  have put : ∀ x y : Int, -150 ≤ x → x ≤ 150 → -150 ≤ y → y ≤ 150 → wy_c2 (ro_sI (ro_sI M c0 n (iI x)) c1 n (iI y)) c0 c1 (wy_up w n (x, y)) ∧ wy_fp c0 c1 M (ro_sI (ro_sI M c0 n (iI x)) c1 n (iI y)) := by
    intro x y x1 x2 y1 y2
    refine ⟨fun m hm => ?_, rfl, rfl, fun a j n1 n2 => by rw [ro_sI_ne n2, ro_sI_ne n1]⟩
    rw [ro_sI_ne hc, ro_rd_s, ro_rd_s, ro_sI_ne (fun q => hc q.symm)]
    by_cases q : m = n
    · subst q
      rw [if_pos ⟨rfl, rfl⟩, if_pos ⟨rfl, rfl⟩, wy_up_e]
      exact ⟨rfl, rfl, x1, x2, y1, y2⟩
    · rw [if_neg (fun z => q z.2), if_neg (fun z => q z.2), wy_up_n q]
      exact h m hm
  have f := wy_bd_f bl bh mo (w n)
  unfold xm_126
  rw [if_neg c3, if_neg c5, if_pos c4, en, m1, m2]
  by_cases q : max 0 ((w n).1 + bl) ≤ min mo ((w n).2 + bh)
  · have eb : wy_bd bl bh mo (w n) = (max 0 ((w n).1 + bl), min mo ((w n).2 + bh)) := if_pos q
    rw [if_pos (lt.mpr q), eb]
    exact put _ _ (by omega) (by omega) (by omega) (by omega)
  · have eb : wy_bd bl bh mo (w n) = (99, -99) := if_neg q
    rw [if_neg (fun z => q (lt.mp z)), eb]
    exact put 99 (-99) (by decide) (by decide) (by decide) (by decide)
/-- a level's windows -/
def wy_wx (M : ro_Mm) (l : Nat) (W : Nat → wy_W) : Prop := wy_c2 M (64 + l) (86 + l) (fun n => (W n).1) ∧ wy_c2 M (108 + l) (130 + l) (fun n => (W n).2)
def wy_fl (l : Nat) (M M2 : ro_Mm) : Prop := M2.1 = M.1 ∧ M2.2.2 = M.2.2 ∧ ∀ x j, x ≠ 64 + l → x ≠ 86 + l → x ≠ 108 + l → x ≠ 130 + l → M2.2.1 x j = M.2.1 x j
theorem wy_fl_t {l : Nat} {A B C : ro_Mm} (h : wy_fl l A B) (g : wy_fl l B C) : wy_fl l A C := ⟨g.1.trans h.1, g.2.1.trans h.2.1, fun x j a b c d => (g.2.2 x j a b c d).trans (h.2.2 x j a b c d)⟩
theorem wy_wx_c {M : ro_Mm} {l : Nat} {W V : Nat → wy_W} (h : wy_wx M l W) (e : ∀ n, n < 12 → V n = W n) : wy_wx M l V := by
  refine ⟨fun n hn => ?_, fun n hn => ?_⟩
  · show M.2.1 (64 + l) n = iI (V n).1.1 ∧ M.2.1 (86 + l) n = iI (V n).1.2 ∧ -150 ≤ (V n).1.1 ∧ (V n).1.1 ≤ 150 ∧ -150 ≤ (V n).1.2 ∧ (V n).1.2 ≤ 150
    rw [e n hn]; exact h.1 n hn
  · show M.2.1 (108 + l) n = iI (V n).2.1 ∧ M.2.1 (130 + l) n = iI (V n).2.2 ∧ -150 ≤ (V n).2.1 ∧ (V n).2.1 ≤ 150 ∧ -150 ≤ (V n).2.2 ∧ (V n).2.2 ≤ 150
    rw [e n hn]; exact h.2 n hn
theorem wy_ww_of {M : ro_Mm} {l : Nat} {W : Nat → wy_W} (h : wy_wx M l W) (z : ∀ n, n < 12 → wy_z (W n)) : wy_ww M l W := fun n hn => ⟨(h.1 n hn).1, (h.1 n hn).2.1, (h.2 n hn).1, (h.2 n hn).2.1, z n hn⟩
theorem wy_wx_of {M : ro_Mm} {l : Nat} {W : Nat → wy_W} (h : wy_ww M l W) : wy_wx M l W := by
  have b : ∀ n, n < 12 → (-150 ≤ (W n).1.1 ∧ (W n).1.1 ≤ 150 ∧ -150 ≤ (W n).1.2 ∧ (W n).1.2 ≤ 150) ∧ (-150 ≤ (W n).2.1 ∧ (W n).2.1 ≤ 150 ∧ -150 ≤ (W n).2.2 ∧ (W n).2.2 ≤ 150) := by
    intro n hn
    obtain ⟨z1, z2, _⟩ := (h n hn).2.2.2.2
    refine ⟨?_, ?_⟩
    · rcases z1 with z | z
      · omega
      · rw [z]; decide
    · rcases z2 with z | z
      · omega
      · rw [z]; decide
  exact ⟨fun n hn => ⟨(h n hn).1, (h n hn).2.1, (b n hn).1⟩, fun n hn => ⟨(h n hn).2.2.1, (h n hn).2.2.2.1, (b n hn).2⟩⟩
theorem wy_up_1 {W : Nat → wy_W} {n m : Nat} {P : wy_W} : (wy_up W n P m).1 = wy_up (fun k => (W k).1) n P.1 m := by
  unfold wy_up
  by_cases q : m = n
  · rw [if_pos q, if_pos q]
  · rw [if_neg q, if_neg q]
theorem wy_up_2 {W : Nat → wy_W} {n m : Nat} {P : wy_W} : (wy_up W n P m).2 = wy_up (fun k => (W k).2) n P.2 m := by
  unfold wy_up
  by_cases q : m = n
  · rw [if_pos q, if_pos q]
  · rw [if_neg q, if_neg q]
theorem wy_em : (-1 : Int32) = iI (-1) := by decide
theorem wy_e0 : (0 : Int32) = iI 0 := by decide
theorem wy_e19 : (19 : Int32) = iI 19 := by decide
theorem wy_two {M : ro_Mm} {l : Nat} (hl : l ≤ 20) {W : Nat → wy_W} (h : wy_wx M l W) {n : Nat} (hn : n < 12) {b1 b2 m1 b3 b4 m2 : Int} (h1 : -1 ≤ b1 ∧ b1 ≤ 1) (h2 : -1 ≤ b2 ∧ b2 ≤ 1) (h3 : -1 ≤ b3 ∧ b3 ≤ 1) (h4 : -1 ≤ b4 ∧ b4 ≤ 1) (h5 : 0 ≤ m1 ∧ m1 ≤ 20) (h6 : 0 ≤ m2 ∧ m2 ≤ 20) :
    wy_wx (xm_126 (xm_126 M (64 + l) (86 + l) (nI n) (iI b1) (iI b2) (iI m1)) (108 + l) (130 + l) (nI n) (iI b3) (iI b4) (iI m2)) l (wy_up W n (wy_bd b1 b2 m1 (W n).1, wy_bd b3 b4 m2 (W n).2)) ∧ wy_fl l M (xm_126 (xm_126 M (64 + l) (86 + l) (nI n) (iI b1) (iI b2) (iI m1)) (108 + l) (130 + l) (nI n) (iI b3) (iI b4) (iI m2)) := by
  obtain ⟨g1, g2⟩ := wy_126 (by omega) h.1 hn h1.1 h1.2 h2.1 h2.2 h5.1 h5.2
  have k2 : wy_c2 (xm_126 M (64 + l) (86 + l) (nI n) (iI b1) (iI b2) (iI m1)) (108 + l) (130 + l) (fun n => (W n).2) := fun m hm => by
    rw [g2.2.2 (108 + l) m (by omega) (by omega), g2.2.2 (130 + l) m (by omega) (by omega)]; exact h.2 m hm
  obtain ⟨g3, g4⟩ := wy_126 (by omega) k2 hn h3.1 h3.2 h4.1 h4.2 h6.1 h6.2
  refine ⟨⟨fun m hm => ?_, fun m hm => ?_⟩, g4.1.trans g2.1, g4.2.1.trans g2.2.1, fun x j n1 n2 n3 n4 => (g4.2.2 x j n3 n4).trans (g2.2.2 x j n1 n2)⟩
  · rw [g4.2.2 (64 + l) m (by omega) (by omega), g4.2.2 (86 + l) m (by omega) (by omega)]
    have e := wy_up_1 (W := W) (n := n) (m := m) (P := (wy_bd b1 b2 m1 (W n).1, wy_bd b3 b4 m2 (W n).2))
    simp only [e]
    exact g1 m hm
  · have e := wy_up_2 (W := W) (n := n) (m := m) (P := (wy_bd b1 b2 m1 (W n).1, wy_bd b3 b4 m2 (W n).2))
    simp only [e]
    exact g3 m hm
section B1
variable {M : ro_Mm} {l n : Nat} {W : Nat → wy_W}
theorem wy_b1 (hl : l ≤ 20) (h : wy_wx M l W) (hn : n < 12) : wy_wx (xm_125 M (nI l) (nI n) (1 : Int32) (20 : Int32)) l (wy_up W n (wy_bw 1 (W n))) ∧ wy_fl l M (xm_125 M (nI l) (nI n) (1 : Int32) (20 : Int32)) := by
  have c1 : ¬ nI l < 0 := nI_pos (by omega)
  have c2 : ¬ (20 : Int32) < nI l := nI_nlt (b := l) (a := 20) hl (by decide)
  have el : (nI l).toNatClampNeg = l := nI_clamp (by omega)
  unfold xm_125
  rw [if_neg c1, if_neg c2, el]
  exact wy_two (b1 := 1) (b2 := 1) (m1 := 20) (b3 := 1) (b4 := 1) (m2 := 20) hl h hn (by omega) (by omega) (by omega) (by omega) (by omega) (by omega)
theorem wy_b2 (hl : l ≤ 20) (h : wy_wx M l W) (hn : n < 12) : wy_wx (xm_125 M (nI l) (nI n) (-1 : Int32) (19 : Int32)) l (wy_up W n (wy_bw 2 (W n))) ∧ wy_fl l M (xm_125 M (nI l) (nI n) (-1 : Int32) (19 : Int32)) := by
  have c1 : ¬ nI l < 0 := nI_pos (by omega)
  have c2 : ¬ (20 : Int32) < nI l := nI_nlt (b := l) (a := 20) hl (by decide)
  have el : (nI l).toNatClampNeg = l := nI_clamp (by omega)
  unfold xm_125
  rw [if_neg c1, if_neg c2, el]
  rw [wy_em, wy_e19]
  exact wy_two (b1 := -1) (b2 := -1) (m1 := 19) (b3 := -1) (b4 := -1) (m2 := 19) hl h hn (by omega) (by omega) (by omega) (by omega) (by omega) (by omega)
theorem wy_b3 (hl : l ≤ 20) (h : wy_wx M l W) (hn : n < 12) : wy_wx (xm_127 M (nI l) (nI n)) l (wy_up W n (wy_bw 3 (W n))) ∧ wy_fl l M (xm_127 M (nI l) (nI n)) := by
  have c1 : ¬ nI l < 0 := nI_pos (by omega)
  have c2 : ¬ (20 : Int32) < nI l := nI_nlt (b := l) (a := 20) hl (by decide)
  have el : (nI l).toNatClampNeg = l := nI_clamp (by omega)
  unfold xm_127
  rw [if_neg c1, if_neg c2, el]
  rw [wy_em, wy_e19, wy_e0]
  exact wy_two (b1 := -1) (b2 := 0) (m1 := 19) (b3 := 0) (b4 := -1) (m2 := 19) hl h hn (by omega) (by omega) (by omega) (by omega) (by omega) (by omega)
end B1
/-- a level's windows, laid a level ahead -/
def wy_cpy (M : ro_Mm) (l : Nat) : ro_Mm := ro_cpI (ro_cpI (ro_cpI (ro_cpI M (64 + (l + 1)) (0 : Int32) (64 + l) (0 : Int32) (12 : Int32)) (86 + (l + 1)) (0 : Int32) (86 + l) (0 : Int32) (12 : Int32)) (108 + (l + 1)) (0 : Int32) (108 + l) (0 : Int32) (12 : Int32)) (130 + (l + 1)) (0 : Int32) (130 + l) (0 : Int32) (12 : Int32)
theorem wy_cp1 {M : ro_Mm} {c0 c1 j : Nat} (h : j < 12) : (ro_cpI M c0 (0 : Int32) c1 (0 : Int32) (12 : Int32)).2.1 c1 j = M.2.1 c0 j := by
  show ro_row M.2.1 c1 (va_cpy (M.2.1 c0) (M.2.1 c1) 0 0 12) c1 j = _
  unfold ro_row
  rw [if_pos rfl]
  exact sb_cpy0 h
theorem wy_cpy_w {M : ro_Mm} {l : Nat} (hl : l < 20) {W : Nat → wy_W} (h : wy_wx M (l + 1) W) : wy_wx (wy_cpy M l) l W ∧ wy_fl l M (wy_cpy M l) := by
  have f : wy_fl l M (wy_cpy M l) := ⟨rfl, rfl, fun x j n1 n2 n3 n4 => by
    unfold wy_cpy
    rw [xwI_cpI n4, xwI_cpI n3, xwI_cpI n2, xwI_cpI n1]⟩
  refine ⟨⟨fun n hn => ?_, fun n hn => ?_⟩, f⟩
  · have e1 : (wy_cpy M l).2.1 (64 + l) n = M.2.1 (64 + (l + 1)) n := by
      unfold wy_cpy
      rw [xwI_cpI (by omega), xwI_cpI (by omega), xwI_cpI (by omega), wy_cp1 hn]
    have e2 : (wy_cpy M l).2.1 (86 + l) n = M.2.1 (86 + (l + 1)) n := by
      unfold wy_cpy
      rw [xwI_cpI (by omega), xwI_cpI (by omega), wy_cp1 hn, xwI_cpI (by omega)]
    rw [e1, e2]; exact h.1 n hn
  · have e1 : (wy_cpy M l).2.1 (108 + l) n = M.2.1 (108 + (l + 1)) n := by
      unfold wy_cpy
      rw [xwI_cpI (by omega), wy_cp1 hn, xwI_cpI (by omega), xwI_cpI (by omega)]
    have e2 : (wy_cpy M l).2.1 (130 + l) n = M.2.1 (130 + (l + 1)) n := by
      unfold wy_cpy
      rw [wy_cp1 hn, xwI_cpI (by omega), xwI_cpI (by omega), xwI_cpI (by omega)]
    rw [e1, e2]; exact h.2 n hn
theorem wy_wx_f {M M2 : ro_Mm} {l y : Nat} (hy : y ≤ 20) (hl : l ≤ 20) (hyl : y ≠ l) {W : Nat → wy_W} (f : wy_fl l M M2) (h : wy_ww M y W) : wy_ww M2 y W := fun n hn => by
  rw [f.2.2 (64 + y) n (by omega) (by omega) (by omega) (by omega), f.2.2 (86 + y) n (by omega) (by omega) (by omega) (by omega), f.2.2 (108 + y) n (by omega) (by omega) (by omega) (by omega), f.2.2 (130 + y) n (by omega) (by omega) (by omega) (by omega)]
  exact h n hn
theorem wy_rd_fl {M M2 : ro_Mm} {l : Nat} (f : wy_fl l M M2) {wh : Nat → Bool} {a b : Nat → Nat} {K : Nat} (h : wy_rd M wh a b K) : wy_rd M2 wh a b K := fun y hy => by
  rw [f.2.2 39 y (by omega) (by omega) (by omega) (by omega), f.2.2 40 y (by omega) (by omega) (by omega) (by omega), f.2.2 41 y (by omega) (by omega) (by omega) (by omega)]
  exact h y hy
theorem wy_rd_l {M : ro_Mm} {wh : Nat → Bool} {a b : Nat → Nat} {K l : Nat} {W : Nat → wy_W} (hK : K ≤ 20) (h : wy_rd M wh a b K) (ha : ∀ l, l < K → a l < 6 ∧ b l < 6 ∧ a l ≠ b l) (hl : l < K) (hw : wy_ww M (l + 1) W) : xp_124 M (nI l) ∧ wy_ww (xm_124 M (nI l)) l (fun n => wy_bw (wy_op wh a b l n) (W n)) ∧ wy_fl l M (xm_124 M (nI l)) := by
  obtain ⟨h1, h2, h3⟩ := ha l hl
  have c1 : ¬ nI l < 0 := nI_pos (by omega)
  have c2 : nI l < (20 : Int32) := nI_lt (b := 20) (by omega) (by decide)
  have e1 : nI l + 1 = nI (l + 1) := (nI_succ l).symm
  have el : (nI l).toNatClampNeg = l := nI_clamp (by omega)
  have el1 : (nI (l + 1)).toNatClampNeg = l + 1 := nI_clamp (by omega)
  obtain ⟨w1, w2⟩ := wy_cpy_w (show l < 20 by omega) (wy_wx_of hw)
  obtain ⟨r1, r2, r3⟩ := wy_rd_f (wy_rd_fl w2 h) hK hl
  have vi : vp_in (nI (l + 1)) 21 := nI_in (by omega) (by decide)
  have zz : ∀ n, n < 12 → wy_z (wy_bw (wy_op wh a b l n) (W n)) := fun n hn => wy_bw_z (hw n hn).2.2.2.2
  unfold xm_124 xp_124
  rw [if_neg c1, if_pos c2, e1, el, el1]
  refine ⟨⟨fun y => absurd y c1, fun _ => ⟨fun _ => ⟨vi, vi, vi, vi, trivial⟩, fun y => absurd c2 y⟩⟩, ?_⟩
  show wy_ww (if xf_71 (wy_cpy M l) (nI l) = true then xm_127 (xm_127 (xm_125 (wy_cpy M l) (nI l) (xf_69 (wy_cpy M l) (nI l)) (1 : Int32) (20 : Int32)) (nI l) (xf_70 (wy_cpy M l) (nI l))) (nI l) ((6 : Int32) + xf_69 (wy_cpy M l) (nI l)) else xm_125 (xm_125 (wy_cpy M l) (nI l) ((6 : Int32) + xf_69 (wy_cpy M l) (nI l)) (1 : Int32) (20 : Int32)) (nI l) ((6 : Int32) + xf_70 (wy_cpy M l) (nI l)) (-1 : Int32) (19 : Int32)) l (fun n => wy_bw (wy_op wh a b l n) (W n)) ∧ wy_fl l M (if xf_71 (wy_cpy M l) (nI l) = true then xm_127 (xm_127 (xm_125 (wy_cpy M l) (nI l) (xf_69 (wy_cpy M l) (nI l)) (1 : Int32) (20 : Int32)) (nI l) (xf_70 (wy_cpy M l) (nI l))) (nI l) ((6 : Int32) + xf_69 (wy_cpy M l) (nI l)) else xm_125 (xm_125 (wy_cpy M l) (nI l) ((6 : Int32) + xf_69 (wy_cpy M l) (nI l)) (1 : Int32) (20 : Int32)) (nI l) ((6 : Int32) + xf_70 (wy_cpy M l) (nI l)) (-1 : Int32) (19 : Int32))
  rw [r1, r2, wy_6, wy_6]
  by_cases q : wh l = true
  · rw [if_pos (r3.mpr q)]
    obtain ⟨g1, g2⟩ := wy_b1 (by omega) w1 (show a l < 12 by omega)
    obtain ⟨g3, g4⟩ := wy_b3 (by omega) g1 (show b l < 12 by omega)
    obtain ⟨g5, g6⟩ := wy_b3 (by omega) g3 (show 6 + a l < 12 by omega)
    refine ⟨wy_ww_of (wy_wx_c g5 (fun n hn => ?_)) zz, wy_fl_t w2 (wy_fl_t g2 (wy_fl_t g4 g6))⟩
    rw [wy_op_w q]
    by_cases s : n = 6 + a l
    · subst s
      rw [wy_up_e, wy_up_n (by omega), wy_up_n (by omega), if_neg (by omega), if_pos (Or.inr rfl)]
    · rw [wy_up_n s]
      by_cases t : n = b l
      · rw [t, wy_up_e, wy_up_n (fun z => h3 z.symm), if_neg (fun z => h3 z.symm), if_pos (Or.inl rfl)]
      · rw [wy_up_n t]
        by_cases u : n = a l
        · rw [u, wy_up_e, if_pos rfl]
        · rw [wy_up_n u, if_neg u, if_neg (fun z => z.elim t s)]; rfl
  · rw [if_neg (fun z => q (r3.mp z))]
    obtain ⟨g1, g2⟩ := wy_b1 (by omega) w1 (show 6 + a l < 12 by omega)
    obtain ⟨g3, g4⟩ := wy_b2 (by omega) g1 (show 6 + b l < 12 by omega)
    refine ⟨wy_ww_of (wy_wx_c g3 (fun n hn => ?_)) zz, wy_fl_t w2 (wy_fl_t g2 g4)⟩
    rw [wy_op_c q]
    by_cases t : n = 6 + b l
    · subst t
      rw [wy_up_e, wy_up_n (by omega), if_neg (by omega), if_pos rfl]
    · rw [wy_up_n t]
      by_cases u : n = 6 + a l
      · rw [u, wy_up_e, if_pos rfl]
      · rw [wy_up_n u, if_neg u, if_neg t]; rfl
def wy_fa (A M : ro_Mm) : Prop := M.1 = A.1 ∧ M.2.2 = A.2.2 ∧ ∀ x j, (x < 64 ∨ 150 < x) → M.2.1 x j = A.2.1 x j
theorem wy_fa_r (A : ro_Mm) : wy_fa A A := ⟨rfl, rfl, fun _ _ _ => rfl⟩
theorem wy_fa_l {l : Nat} (hl : l ≤ 20) {A B C : ro_Mm} (h : wy_fa A B) (g : wy_fl l B C) : wy_fa A C := ⟨g.1.trans h.1, g.2.1.trans h.2.1, fun x j q => (g.2.2 x j (by omega) (by omega) (by omega) (by omega)).trans (h.2.2 x j q)⟩
/-- back over all offers -/
theorem wy_35 {A : ro_Mm} {wh : Nat → Bool} {a b : Nat → Nat} {T : Nat → wy_W} {K : Nat} (hK : K ≤ 20) (ha : ∀ l, l < K → a l < 6 ∧ b l < 6 ∧ a l ≠ b l) {v2 : Int32} {c1 : Nat} : ∀ (i n : Nat) (M : ro_Mm), i < n → i ≤ K → wy_fa A M → wy_rd M wh a b K → (∀ l, i ≤ l → l ≤ K → wy_ww M l (wy_w wh a b T (K - l) l)) →
    xq_120_35 n M (nI i - 1) v2 c1 ∧ wy_fa A (xg_120_35 n M (nI i - 1) v2 c1).2 ∧ wy_rd (xg_120_35 n M (nI i - 1) v2 c1).2 wh a b K ∧ wy_ev (xg_120_35 n M (nI i - 1) v2 c1).2 wh a b T K := by
  intro i
  induction i with
  | zero =>
    intro n M hn hi hf hr hw
    cases n with
    | zero => exact absurd hn (Nat.not_lt_zero _)
    | succ n =>
      have c0 : nI 0 - 1 < 0 := by decide
      rw [xg_120_35, xq_120_35, if_pos c0]
      exact ⟨⟨fun _ => trivial, fun y => absurd c0 y⟩, hf, hr, hK, ha, fun l hl => hw l (Nat.zero_le _) hl⟩
  | succ i ih =>
    intro n M hn hi hf hr hw
    cases n with
    | zero => exact absurd hn (Nat.not_lt_zero _)
    | succ n =>
      rw [nI_pred]
      have c0 : ¬ nI i < 0 := nI_pos (by omega)
      obtain ⟨g1, g2, g3⟩ := wy_rd_l hK hr ha (show i < K by omega) (hw (i + 1) (Nat.le_refl _) hi)
      have em : nI i + (-1 : Int32) = nI i - 1 := by rw [Int32.sub_eq_add_neg]
      obtain ⟨i1, i2⟩ := ih n (xm_124 M (nI i)) (by omega) (by omega) (wy_fa_l (by omega) hf g3) (wy_rd_fl g3 hr) (fun l h1 h2 => by
        by_cases q : l = i
        · subst q
          have e : K - l = (K - (l + 1)) + 1 := by omega
          rw [e]
          exact g2
        · exact wy_wx_f (by omega) (by omega) q g3 (hw l (by omega) h2))
      rw [xg_120_35, xq_120_35, if_neg c0, em]
      exact ⟨⟨fun y => absurd y c0, fun _ => ⟨g1, i1⟩⟩, i2⟩
/-! what is told -/
def wy_tw (p z : Nat) (t : Nat → Int) (n : Nat) : wy_W := if n % 6 < p ∧ 2 * (n % 6) + n / 6 < z then ((t (2 * (n % 6) + n / 6), t (2 * (n % 6) + n / 6)), (t (2 * (n % 6) + n / 6), t (2 * (n % 6) + n / 6))) else ((0, 20), (0, 20))
theorem wy_123 {M : ro_Mm} {l n : Nat} {lo hi : Int32} (hl : l ≤ 20) (hn : n < 12) : xm_123 M (nI l) (nI n) lo hi = ro_sI (ro_sI (ro_sI (ro_sI M (64 + l) n lo) (86 + l) n hi) (108 + l) n lo) (130 + l) n hi := by
  have c1 : ¬ nI l < 0 := nI_pos (by omega)
  have c2 : ¬ (20 : Int32) < nI l := nI_nlt (b := l) (a := 20) hl (by decide)
  have c3 : ¬ nI n < 0 := nI_pos (by omega)
  have c5 : ¬ (12 : Int32) ≤ nI n := nI_ge (b := 12) hn (by decide)
  have el : (nI l).toNatClampNeg = l := nI_clamp (by omega)
  have en : (nI n).toNatClampNeg = n := nI_clamp (by omega)
  unfold xm_123
  rw [if_neg c1, if_neg c2, if_neg c3, if_neg c5, el, en]
theorem wy_123_f {M : ro_Mm} {l n : Nat} {lo hi : Int32} (hl : l ≤ 20) (hn : n < 12) : wy_fl l M (xm_123 M (nI l) (nI n) lo hi) ∧ ∀ m, m < 12 → (xm_123 M (nI l) (nI n) lo hi).2.1 (64 + l) m = (if m = n then lo else M.2.1 (64 + l) m) ∧ (xm_123 M (nI l) (nI n) lo hi).2.1 (86 + l) m = (if m = n then hi else M.2.1 (86 + l) m) ∧ (xm_123 M (nI l) (nI n) lo hi).2.1 (108 + l) m = (if m = n then lo else M.2.1 (108 + l) m) ∧ (xm_123 M (nI l) (nI n) lo hi).2.1 (130 + l) m = (if m = n then hi else M.2.1 (130 + l) m) := by
  rw [wy_123 hl hn]
  refine ⟨⟨rfl, rfl, fun x j n1 n2 n3 n4 => by rw [ro_sI_ne n4, ro_sI_ne n3, ro_sI_ne n2, ro_sI_ne n1]⟩, fun m hm => ⟨?_, ?_, ?_, ?_⟩⟩
  · rw [ro_sI_ne (by omega), ro_sI_ne (by omega), ro_sI_ne (by omega), ro_rd_s]
    simp only [true_and]
  · rw [ro_sI_ne (by omega), ro_sI_ne (by omega), ro_rd_s, ro_sI_ne (by omega)]
    simp only [true_and]
  · rw [ro_sI_ne (by omega), ro_rd_s, ro_sI_ne (by omega), ro_sI_ne (by omega)]
    simp only [true_and]
  · rw [ro_rd_s, ro_sI_ne (by omega), ro_sI_ne (by omega), ro_sI_ne (by omega)]
    simp only [true_and]
/-- all that is told can be had -/
def wy_tk (p z : Nat) (t : Nat → Int) : Prop := ∀ n, n < 12 → n % 6 < p ∧ 2 * (n % 6) + n / 6 < z → 0 ≤ t (2 * (n % 6) + n / 6) ∧ t (2 * (n % 6) + n / 6) ≤ 20
theorem wy_122 {A : ro_Mm} {K p z c : Nat} {t : Nat → Int} (hK : K ≤ 20) (hp : p ≤ 6) (hz : z ≤ 60) (e1 : A.2.1 5 4 = nI p) (ec : A.2.1 c 2 = nI z) (hc : ro_is c) (hf : ∀ y, y < z → xf_25 A c (nI y) = iI (t y) ∧ (iI (t y)).toInt = t y) :
    ∀ (r i n : Nat) (M : ro_Mm), i + r = 12 → r < n → wy_fa A M → (∀ m, m < i → M.2.1 (64 + K) m = iI (wy_tw p z t m).1.1 ∧ M.2.1 (86 + K) m = iI (wy_tw p z t m).1.2 ∧ M.2.1 (108 + K) m = iI (wy_tw p z t m).2.1 ∧ M.2.1 (130 + K) m = iI (wy_tw p z t m).2.2 ∧ wy_z (wy_tw p z t m)) →
    (∀ m, m < i → m % 6 < p ∧ 2 * (m % 6) + m / 6 < z → 0 ≤ t (2 * (m % 6) + m / 6) ∧ t (2 * (m % 6) + m / 6) ≤ 20) →
    xq_122_2 n M (nI i) (nI K) c ∧ wy_fa A (xg_122_2 n M (nI i) (nI K) c).2.2.2 ∧ ((wy_tk p z t ∧ (xg_122_2 n M (nI i) (nI K) c).1 = false ∧ wy_ww (xg_122_2 n M (nI i) (nI K) c).2.2.2 K (wy_tw p z t)) ∨ (¬ wy_tk p z t ∧ (xg_122_2 n M (nI i) (nI K) c).1 = true ∧ (xg_122_2 n M (nI i) (nI K) c).2.1 = false)) := by
  intro r
  induction r with
  | zero =>
    intro i n M hi hn hfa hw hk
    cases n with
    | zero => exact absurd hn (Nat.not_lt_zero _)
    | succ n =>
      have c0 : (12 : Int32) ≤ nI i := nI_le (a := 12) (by omega) (by omega)
      have e : i = 12 := by omega
      subst e
      rw [xg_122_2, xq_122_2, if_pos c0]
      exact ⟨⟨fun _ => trivial, fun y => absurd c0 y⟩, hfa, Or.inl ⟨hk, rfl, hw⟩⟩
  | succ r ih =>
    intro i n M hi hn hfa hw hk
    cases n with
    | zero => exact absurd hn (Nat.not_lt_zero _)
    | succ n =>
      have c0 : ¬ (12 : Int32) ≤ nI i := nI_ge (b := 12) (by omega) (by decide)
      have er : ro_irem (nI i) (6 : Int32) = nI (i % 6) := nI_rem (b := 6) (by omega) (by decide)
      have ed : nI i / (6 : Int32) = nI (i / 6) := nI_div (b := 6) (by omega) (by decide)
      have e2 : (2 : Int32) * nI (i % 6) = nI (2 * (i % 6)) := nI_mul 2 (i % 6)
      have i6 : i / 6 < 2 := by omega
      have im : i % 6 < 6 := by omega
      have n5 : ∀ y : Nat, y < 64 → ∀ j, M.2.1 y j = A.2.1 y j := fun y hy j => hfa.2.2 y j (Or.inl hy)
      have c33 : c < 64 := by unfold ro_is at hc; omega
      have e24 : xf_24 M c = nI z := by unfold xf_24; rw [n5 c c33]; exact ec
      have e25 : ∀ y, xf_25 M c y = xf_25 A c y := fun y => by unfold xf_25 xf_26; rw [n5 c c33, hfa.2.1]
      have e29 : xf_29 M (nI (i % 6)) = true ↔ i % 6 < p := by
        have a1 : ¬ nI (i % 6) < 0 := nI_pos (by omega)
        have a2 : ¬ (6 : Int32) ≤ nI (i % 6) := nI_ge (b := 6) im (by decide)
        unfold xf_29
        rw [if_neg a1, if_neg a2, n5 5 (by omega), e1]
        by_cases q : i % 6 < p
        · rw [if_neg (nI_ge q (by omega))]; exact ⟨fun _ => q, fun _ => rfl⟩
        · rw [if_pos (nI_le (by omega) (by omega))]; exact ⟨fun z => Bool.noConfusion z, fun z => absurd z q⟩
      -- one number laid, and on
      have go : ∀ lo hi : Int, lo ≤ hi → 0 ≤ lo → hi ≤ 20 → wy_tw p z t i = ((lo, hi), (lo, hi)) → (i % 6 < p ∧ 2 * (i % 6) + i / 6 < z → 0 ≤ t (2 * (i % 6) + i / 6) ∧ t (2 * (i % 6) + i / 6) ≤ 20) →
          xq_122_2 n (xm_123 M (nI K) (nI i) (iI lo) (iI hi)) (nI i + 1) (nI K) c ∧ wy_fa A (xg_122_2 n (xm_123 M (nI K) (nI i) (iI lo) (iI hi)) (nI i + 1) (nI K) c).2.2.2 ∧ ((wy_tk p z t ∧ (xg_122_2 n (xm_123 M (nI K) (nI i) (iI lo) (iI hi)) (nI i + 1) (nI K) c).1 = false ∧ wy_ww (xg_122_2 n (xm_123 M (nI K) (nI i) (iI lo) (iI hi)) (nI i + 1) (nI K) c).2.2.2 K (wy_tw p z t)) ∨ (¬ wy_tk p z t ∧ (xg_122_2 n (xm_123 M (nI K) (nI i) (iI lo) (iI hi)) (nI i + 1) (nI K) c).1 = true ∧ (xg_122_2 n (xm_123 M (nI K) (nI i) (iI lo) (iI hi)) (nI i + 1) (nI K) c).2.1 = false)) := by
        intro lo hi' hlh l0 h20 et ht
        obtain ⟨f1, f2⟩ := wy_123_f (M := M) (lo := iI lo) (hi := iI hi') hK (show i < 12 by omega)
        rw [← nI_succ]
        refine ih (i + 1) n _ (by omega) (by omega) (wy_fa_l hK hfa f1) (fun m hm => ?_) (fun m hm => ?_)
        · obtain ⟨g1, g2, g3, g4⟩ := f2 m (by omega)
          rw [g1, g2, g3, g4]
          by_cases q : m = i
          · subst q
            simp only [if_true]
            rw [et]
            exact ⟨rfl, rfl, rfl, rfl, Or.inl ⟨l0, h20, hlh⟩, Or.inl ⟨l0, h20, hlh⟩, fun x hx => hx⟩
          · simp only [if_neg q]
            exact hw m (by omega)
        · by_cases q : m = i
          · subst q; exact ht
          · exact hk m (by omega)
      rw [xg_122_2, xq_122_2, if_neg c0, er, ed, e2, nI_add, e24, e25]
      have z0 : (0 : Int32) = iI 0 := rfl
      have z20 : (20 : Int32) = iI 20 := rfl
      by_cases q1 : i % 6 < p
      · have c1 := e29.mpr q1
        by_cases q2 : 2 * (i % 6) + i / 6 < z
        · have c2 : ¬ nI z ≤ nI (2 * (i % 6) + i / 6) := nI_ge q2 (by omega)
          obtain ⟨t1, t2⟩ := hf _ q2
          have c3 : iI (t (2 * (i % 6) + i / 6)) < 0 ↔ t (2 * (i % 6) + i / 6) < 0 := by rw [Int32.lt_iff_toInt_lt, t2]; exact Iff.rfl
          have c4 : iI (t (2 * (i % 6) + i / 6)) ≤ 20 ↔ t (2 * (i % 6) + i / 6) ≤ 20 := by rw [Int32.le_iff_toInt_le, t2]; exact Iff.rfl
          rw [if_pos c1, if_neg c2, t1]
          by_cases q3 : t (2 * (i % 6) + i / 6) < 0
          · rw [if_pos (c3.mpr q3)]
            refine ⟨⟨fun y => absurd y c0, fun _ => ⟨fun _ => ⟨fun y => absurd y c2, fun _ => ⟨fun _ => trivial, fun y => absurd (c3.mpr q3) y⟩⟩, fun y => absurd c1 y⟩⟩, hfa, Or.inr ⟨fun k => ?_, rfl, rfl⟩⟩
            have := (k i (by omega) ⟨q1, q2⟩).1
            omega
          · by_cases q4 : t (2 * (i % 6) + i / 6) ≤ 20
            · rw [if_neg (fun y => q3 (c3.mp y)), if_pos (c4.mpr q4)]
              obtain ⟨g1, g2⟩ := go (t (2 * (i % 6) + i / 6)) (t (2 * (i % 6) + i / 6)) (Int.le_refl _) (by omega) q4 (if_pos ⟨q1, q2⟩) (fun _ => ⟨by omega, q4⟩)
              exact ⟨⟨fun y => absurd y c0, fun _ => ⟨fun _ => ⟨fun y => absurd y c2, fun _ => ⟨fun y => absurd (c3.mp y) q3, fun _ => ⟨fun _ => g1, fun y => absurd (c4.mpr q4) y⟩⟩⟩, fun y => absurd c1 y⟩⟩, g2⟩
            · rw [if_neg (fun y => q3 (c3.mp y)), if_neg (fun y => q4 (c4.mp y))]
              refine ⟨⟨fun y => absurd y c0, fun _ => ⟨fun _ => ⟨fun y => absurd y c2, fun _ => ⟨fun y => absurd (c3.mp y) q3, fun _ => ⟨fun y => absurd (c4.mp y) q4, fun _ => trivial⟩⟩⟩, fun y => absurd c1 y⟩⟩, hfa, Or.inr ⟨fun k => ?_, rfl, rfl⟩⟩
              have := (k i (by omega) ⟨q1, q2⟩).2
              omega
        · have c2 : nI z ≤ nI (2 * (i % 6) + i / 6) := nI_le (by omega) (by omega)
          rw [if_pos c1, if_pos c2]
          obtain ⟨g1, g2⟩ := go 0 20 (by decide) (by decide) (by decide) (if_neg (fun y => q2 y.2)) (fun y => absurd y.2 q2)
          exact ⟨⟨fun y => absurd y c0, fun _ => ⟨fun _ => ⟨fun _ => g1, fun y => absurd c2 y⟩, fun y => absurd c1 y⟩⟩, g2⟩
      · have c1 : ¬ xf_29 M (nI (i % 6)) = true := fun y => q1 (e29.mp y)
        rw [if_neg c1]
        obtain ⟨g1, g2⟩ := go 0 20 (by decide) (by decide) (by decide) (if_neg (fun y => q1 y.1)) (fun y => absurd y.1 q1)
        exact ⟨⟨fun y => absurd y c0, fun _ => ⟨fun y => absurd y c1, fun _ => g1⟩⟩, g2⟩
end WYH

