/-! ways behind an evening: an offer's key, the reference's ways and the class's are the same -/
section WYC
theorem wy_i1 {x : Int32} (h : 0 ≤ x.toInt) (h2 : x.toInt ≤ 20) : (x - 1).toInt = x.toInt - 1 ∧ (x + 1).toInt = x.toInt + 1 := by
  rw [Int32.toInt_sub, Int32.toInt_add]
  have e : (1 : Int32).toInt = 1 := rfl
  rw [e]
  exact ⟨Int.bmod_eq_of_le (by omega) (by omega), Int.bmod_eq_of_le (by omega) (by omega)⟩
def wy_ok (S : pu_T) : Prop := ∀ n, n < 12 → 0 ≤ wy_v S n ∧ wy_v S n ≤ 20
theorem wy_v1 {S : pu_T} {n : Nat} (h : n < 6) : wy_v S n = (S.1 n).toInt := if_pos h
theorem wy_v2 {S : pu_T} {n : Nat} : wy_v S (6 + n) = (S.2 n).toInt := by
  unfold wy_v
  rw [if_neg (by omega), show 6 + n - 6 = n by omega]
theorem wy_v_c {S Q : pu_T} (g : Nat → Int) (h1 : ∀ m, m < 6 → (Q.1 m).toInt = g m) (h2 : ∀ m, m < 6 → (Q.2 m).toInt = g (6 + m)) : ∀ n, n < 12 → wy_v Q n = g n := by
  intro n hn
  by_cases q : n < 6
  · rw [wy_v1 q]; exact h1 n q
  · obtain ⟨m, rfl⟩ : ∃ m, n = 6 + m := ⟨n - 6, by omega⟩
    rw [wy_v2]; exact h2 m (by omega)
/-- numbers behind an offer of a whole one: y is 1 if it is taken, 0 if not -/
def wy_fw (f : Nat → Int) (a b : Nat) (y : Int) : Nat → Int := wy_up (wy_up (wy_up f a (f a + -1)) b (f b + y)) (6 + a) (f (6 + a) + (1 - y))
def wy_fc (f : Nat → Int) (a b : Nat) : Nat → Int := wy_up (wy_up f (6 + a) (f (6 + a) + -1)) (6 + b) (f (6 + b) + 1)
theorem wy_fw_e {f : Nat → Int} {a b : Nat} {y : Int} (ha : a < 6) (hb : b < 6) (hab : a ≠ b) : wy_fw f a b y a = f a + -1 ∧ wy_fw f a b y b = f b + y ∧ wy_fw f a b y (6 + a) = f (6 + a) + (1 - y) ∧ ∀ n, n ≠ a → n ≠ b → n ≠ 6 + a → wy_fw f a b y n = f n := by
  unfold wy_fw
  refine ⟨?_, ?_, wy_up_e, fun n h1 h2 h3 => ?_⟩
  · rw [wy_up_n (by omega), wy_up_n hab, wy_up_e]
  · rw [wy_up_n (by omega), wy_up_e]
  · rw [wy_up_n h3, wy_up_n h2, wy_up_n h1]
theorem wy_fc_e {f : Nat → Int} {a b : Nat} (hab : a ≠ b) : wy_fc f a b (6 + a) = f (6 + a) + -1 ∧ wy_fc f a b (6 + b) = f (6 + b) + 1 ∧ ∀ n, n ≠ 6 + a → n ≠ 6 + b → wy_fc f a b n = f n := by
  unfold wy_fc
  refine ⟨?_, wy_up_e, fun n h1 h2 => ?_⟩
  · rw [wy_up_n (by omega), wy_up_e]
  · rw [wy_up_n h2, wy_up_n h1]
theorem wy_v_gw {S : pu_T} (hS : wy_ok S) {a b : Nat} (ha : a < 6) (hb : b < 6) (hab : a ≠ b) : ∀ n, n < 12 → wy_v (pu_gw S a b) n = wy_fw (wy_v S) a b 1 n := by
  obtain ⟨g1, g2, g3, g4⟩ := wy_fw_e (f := wy_v S) (y := 1) ha hb hab
  have a1 := hS a (by omega)
  have b1 := hS b (by omega)
  rw [wy_v1 ha] at a1 g1
  rw [wy_v1 hb] at b1 g2
  refine wy_v_c (S := S) _ (fun m hm => ?_) (fun m hm => ?_)
  · show (pu_set (pu_set S.1 a (S.1 a - 1)) b (S.1 b + 1) m).toInt = _
    unfold pu_set
    by_cases q : m = b
    · subst q
      rw [if_pos rfl, g2]; exact (wy_i1 b1.1 b1.2).2
    · rw [if_neg q]
      by_cases r : m = a
      · subst r
        rw [if_pos rfl, g1]; exact (wy_i1 a1.1 a1.2).1
      · rw [if_neg r, g4 m r q (by omega), wy_v1 hm]
  · show (S.2 m).toInt = _
    by_cases q : m = a
    · subst q
      rw [g3, wy_v2]; omega
    · rw [g4 _ (by omega) (by omega) (by omega), wy_v2]
theorem wy_v_rf {S : pu_T} (hS : wy_ok S) {a b : Nat} (ha : a < 6) (hb : b < 6) (hab : a ≠ b) : ∀ n, n < 12 → wy_v (pu_rf S a) n = wy_fw (wy_v S) a b 0 n := by
  obtain ⟨g1, g2, g3, g4⟩ := wy_fw_e (f := wy_v S) (y := 0) ha hb hab
  have a1 := hS a (by omega)
  have b1 := hS (6 + a) (by omega)
  rw [wy_v1 ha] at a1 g1
  rw [wy_v2] at b1 g3
  refine wy_v_c (S := S) _ (fun m hm => ?_) (fun m hm => ?_)
  · show (pu_set S.1 a (S.1 a - 1) m).toInt = _
    unfold pu_set
    by_cases r : m = a
    · subst r
      rw [if_pos rfl, g1]; exact (wy_i1 a1.1 a1.2).1
    · rw [if_neg r]
      by_cases q : m = b
      · subst q
        rw [g2, wy_v1 hm]; omega
      · rw [g4 m r q (by omega), wy_v1 hm]
  · show (pu_set S.2 a (S.2 a + 1) m).toInt = _
    unfold pu_set
    by_cases q : m = a
    · subst q
      rw [if_pos rfl, g3]; exact (wy_i1 b1.1 b1.2).2
    · rw [if_neg q, g4 _ (by omega) (by omega) (by omega), wy_v2]
theorem wy_v_gc {S : pu_T} (hS : wy_ok S) {a b : Nat} (ha : a < 6) (hb : b < 6) (hab : a ≠ b) : ∀ n, n < 12 → wy_v (pu_gc S a b) n = wy_fc (wy_v S) a b n := by
  obtain ⟨g1, g2, g4⟩ := wy_fc_e (f := wy_v S) hab
  have a1 := hS (6 + a) (by omega)
  have b1 := hS (6 + b) (by omega)
  rw [wy_v2] at a1 g1
  rw [wy_v2] at b1 g2
  refine wy_v_c (S := S) _ (fun m hm => ?_) (fun m hm => ?_)
  · show (S.1 m).toInt = _
    rw [g4 _ (by omega) (by omega), wy_v1 hm]
  · show (pu_set (pu_set S.2 a (S.2 a - 1)) b (S.2 b + 1) m).toInt = _
    unfold pu_set
    by_cases q : m = b
    · subst q
      rw [if_pos rfl, g2]; exact (wy_i1 b1.1 b1.2).2
    · rw [if_neg q]
      by_cases r : m = a
      · subst r
        rw [if_pos rfl, g1]; exact (wy_i1 a1.1 a1.2).1
      · rw [if_neg r, g4 _ (by omega) (by omega), wy_v2]
theorem wy_mw {S : pu_T} {a b : Nat} (ha : a < 6) (hb : b < 6) : pu_mw S a b = true ↔ 0 < wy_v S a ∧ wy_v S b < 20 ∧ wy_v S (6 + a) < 20 := by
  unfold pu_mw
  rw [wy_v1 ha, wy_v1 hb, wy_v2, Bool.and_eq_true, Bool.and_eq_true, decide_eq_true_iff, decide_eq_true_iff, decide_eq_true_iff, Int32.lt_iff_toInt_lt, Int32.lt_iff_toInt_lt, Int32.lt_iff_toInt_lt]
  exact Iff.rfl
theorem wy_mc {S : pu_T} {a b : Nat} : pu_mc S a b = true ↔ 0 < wy_v S (6 + a) ∧ wy_v S (6 + b) < 20 := by
  unfold pu_mc
  rw [wy_v2, wy_v2, Bool.and_eq_true, decide_eq_true_iff, decide_eq_true_iff, Int32.lt_iff_toInt_lt, Int32.lt_iff_toInt_lt]
  exact Iff.rfl
/-- an offer of a whole one: the key behind it -/
theorem wy_stw {M : ro_Mm} {l : Nat} {W V : Nat → wy_W} {k : Int64} {f : Nat → Int} {a b : Nat} {y : Int} (hl : l ≤ 20) (hw : wy_ww M l W) (ha : a < 6) (hb : b < 6) (hab : a ≠ b) (hV : ∀ n, n < 12 → V n = wy_bw (if n = a then 1 else if n = b ∨ n = 6 + a then 3 else 0) (W n)) (hk : wy_kr V k f) (hy : y = 0 ∨ y = 1) :
    ((∀ n, n < 12 → wy_in (wy_fw f a b y n) (W n).1) → wy_kr W (xf_135 M (nI l) (xf_135 M (nI l) (xf_135 M (nI l) k (nI a) (iI (-1))) (nI b) (iI y)) (nI (6 + a)) (iI (1 - y))) (wy_fw f a b y)) ∧ ((¬ ∀ n, n < 12 → wy_in (wy_fw f a b y n) (W n).1) → xf_135 M (nI l) (xf_135 M (nI l) (xf_135 M (nI l) k (nI a) (iI (-1))) (nI b) (iI y)) (nI (6 + a)) (iI (1 - y)) = -1) := by
  obtain ⟨g1, g2, g3, g4⟩ := wy_fw_e (f := f) (y := y) ha hb hab
  have Va : V a = wy_bw 1 (W a) := by rw [hV a (by omega), if_pos rfl]
  have Vb : V b = wy_bw 3 (W b) := by rw [hV b (by omega), if_neg (fun q => hab q.symm), if_pos (Or.inl rfl)]
  have Vc : V (6 + a) = wy_bw 3 (W (6 + a)) := by rw [hV (6 + a) (by omega), if_neg (by omega), if_pos (Or.inr rfl)]
  have e1 := wy_135 hl hw hk (n := a) (y := -1) (by omega) (by omega) (by omega) (fun h => by
    rw [Va] at h
    obtain ⟨h1, h2, h3, h4⟩ := wy_in_bd.mp h
    exact ⟨by omega, by omega⟩)
  by_cases i1 : wy_in (f a + -1) (W a).1
  · have k1 := e1.1 i1
    have e2 := wy_135 hl hw k1 (n := b) (y := y) (by omega) (by omega) (by omega) (fun h => by
      rw [wy_up_n (fun q => hab q.symm)] at h ⊢
      rw [wy_up_n (fun q => hab q.symm), Vb] at h
      obtain ⟨h1, h2, h3, h4⟩ := wy_in_bd.mp h
      exact ⟨by omega, by omega⟩)
    have eb : wy_up f a (f a + -1) b = f b := wy_up_n (fun q => hab q.symm)
    rw [eb] at e2
    by_cases i2 : wy_in (f b + y) (W b).1
    · have k2 := e2.1 i2
      have ec : wy_up (wy_up f a (f a + -1)) b (f b + y) (6 + a) = f (6 + a) := by rw [wy_up_n (by omega), wy_up_n (by omega)]
      have e3 := wy_135 hl hw k2 (n := 6 + a) (y := 1 - y) (by omega) (by omega) (by omega) (fun h => by
        rw [ec] at h ⊢
        rw [wy_up_n (by omega), wy_up_n (by omega), Vc] at h
        obtain ⟨h1, h2, h3, h4⟩ := wy_in_bd.mp h
        exact ⟨by omega, by omega⟩)
      rw [ec] at e3
      by_cases i3 : wy_in (f (6 + a) + (1 - y)) (W (6 + a)).1
      · have k3 := e3.1 i3
        have k4 := wy_kr_c (V := W) (g := wy_fw f a b y) k3 (fun n hn => by
          refine ⟨?_, rfl⟩
          by_cases q : n = 6 + a
          · rw [q, wy_up_e]
          · rw [wy_up_n q]
            by_cases r : n = b
            · rw [r, wy_up_e]
            · rw [wy_up_n r]
              by_cases s : n = a
              · rw [s, wy_up_e]
              · rw [wy_up_n s, hV n hn, if_neg s, if_neg (fun z => z.elim r q)]; rfl)
        exact ⟨fun _ => k4, fun h => absurd (fun n hn => (k4.1 n hn).1) h⟩
      · have k3 := e3.2 i3
        exact ⟨fun h => absurd (by have := h (6 + a) (by omega); rw [g3] at this; exact this) i3, fun _ => k3⟩
    · have k2 := e2.2 i2
      exact ⟨fun h => absurd (by have := h b (by omega); rw [g2] at this; exact this) i2, fun _ => by rw [k2, wy_135n]⟩
  · have k1 := e1.2 i1
    exact ⟨fun h => absurd (by have := h a (by omega); rw [g1] at this; exact this) i1, fun _ => by rw [k1, wy_135n, wy_135n]⟩
theorem wy_stc {M : ro_Mm} {l : Nat} {W V : Nat → wy_W} {k : Int64} {f : Nat → Int} {a b : Nat} (hl : l ≤ 20) (hw : wy_ww M l W) (ha : a < 6) (hb : b < 6) (hab : a ≠ b) (hV : ∀ n, n < 12 → V n = wy_bw (if n = 6 + a then 1 else if n = 6 + b then 2 else 0) (W n)) (hk : wy_kr V k f) :
    ((∀ n, n < 12 → wy_in (wy_fc f a b n) (W n).1) → wy_kr W (xf_135 M (nI l) (xf_135 M (nI l) k (nI (6 + a)) (iI (-1))) (nI (6 + b)) (iI 1)) (wy_fc f a b)) ∧ ((¬ ∀ n, n < 12 → wy_in (wy_fc f a b n) (W n).1) → xf_135 M (nI l) (xf_135 M (nI l) k (nI (6 + a)) (iI (-1))) (nI (6 + b)) (iI 1) = -1) := by
  obtain ⟨g1, g2, g4⟩ := wy_fc_e (f := f) hab
  have Va : V (6 + a) = wy_bw 1 (W (6 + a)) := by rw [hV (6 + a) (by omega), if_pos rfl]
  have Vb : V (6 + b) = wy_bw 2 (W (6 + b)) := by rw [hV (6 + b) (by omega), if_neg (by omega), if_pos rfl]
  have e1 := wy_135 hl hw hk (n := 6 + a) (y := -1) (by omega) (by omega) (by omega) (fun h => by
    rw [Va] at h
    obtain ⟨h1, h2, h3, h4⟩ := wy_in_bd.mp h
    exact ⟨by omega, by omega⟩)
  by_cases i1 : wy_in (f (6 + a) + -1) (W (6 + a)).1
  · have k1 := e1.1 i1
    have eb : wy_up f (6 + a) (f (6 + a) + -1) (6 + b) = f (6 + b) := wy_up_n (by omega)
    have e2 := wy_135 hl hw k1 (n := 6 + b) (y := 1) (by omega) (by omega) (by omega) (fun h => by
      rw [eb] at h ⊢
      rw [wy_up_n (by omega), Vb] at h
      obtain ⟨h1, h2, h3, h4⟩ := wy_in_bd.mp h
      exact ⟨by omega, by omega⟩)
    rw [eb] at e2
    by_cases i2 : wy_in (f (6 + b) + 1) (W (6 + b)).1
    · have k2 := e2.1 i2
      have k4 := wy_kr_c (V := W) (g := wy_fc f a b) k2 (fun n hn => by
        refine ⟨?_, rfl⟩
        by_cases r : n = 6 + b
        · rw [r, wy_up_e]
        · rw [wy_up_n r]
          by_cases s : n = 6 + a
          · rw [s, wy_up_e]
          · rw [wy_up_n s, hV n hn, if_neg s, if_neg r]; rfl)
      exact ⟨fun _ => k4, fun h => absurd (fun n hn => (k4.1 n hn).1) h⟩
    · have k2 := e2.2 i2
      exact ⟨fun h => absurd (by have := h (6 + b) (by omega); rw [g2] at this; exact this) i2, fun _ => k2⟩
  · have k1 := e1.2 i1
    exact ⟨fun h => absurd (by have := h (6 + a) (by omega); rw [g1] at this; exact this) i1, fun _ => by rw [k1, wy_135n]⟩
/-- an offer's keys, as the class makes them -/
def wy_ky (M : ro_Mm) (a b : Nat → Nat) (l : Nat) (k : Int64) : Int64 := xf_135 M (nI (l + 1)) (xf_135 M (nI (l + 1)) (xf_135 M (nI (l + 1)) k (nI (a l)) (-1)) (nI (b l)) 1) (nI (6 + a l)) 0
def wy_kn (M : ro_Mm) (a b : Nat → Nat) (l : Nat) (k : Int64) : Int64 := xf_135 M (nI (l + 1)) (xf_135 M (nI (l + 1)) (xf_135 M (nI (l + 1)) k (nI (a l)) (-1)) (nI (b l)) 0) (nI (6 + a l)) 1
def wy_kc (M : ro_Mm) (a b : Nat → Nat) (l : Nat) (k : Int64) : Int64 := xf_135 M (nI (l + 1)) (xf_135 M (nI (l + 1)) k (nI (6 + a l)) (-1)) (nI (6 + b l)) 1
/-- an evening's offers, what is told, the windows as they lie -/
def wy_ev (M : ro_Mm) (wh : Nat → Bool) (a b : Nat → Nat) (T : Nat → wy_W) (K : Nat) : Prop := K ≤ 20 ∧ (∀ l, l < K → a l < 6 ∧ b l < 6 ∧ a l ≠ b l) ∧ ∀ l, l ≤ K → wy_ww M l (wy_w wh a b T (K - l) l)
section ST
variable {M : ro_Mm} {wh : Nat → Bool} {a b : Nat → Nat} {T : Nat → wy_W} {K d l : Nat} {k : Int64} {f : Nat → Int}
theorem wy_op_w (h : wh l = true) (n : Nat) : wy_op wh a b l n = if n = a l then 1 else if n = b l ∨ n = 6 + a l then 3 else 0 := by unfold wy_op; rw [if_pos h]
theorem wy_op_c (h : ¬ wh l = true) (n : Nat) : wy_op wh a b l n = if n = 6 + a l then 1 else if n = 6 + b l then 2 else 0 := by unfold wy_op; rw [if_neg h]
theorem wy_ev_w (hE : wy_ev M wh a b T K) (hl : l + (d + 1) = K) : wy_ww M (l + 1) (wy_w wh a b T d (l + 1)) := by
  have := hE.2.2 (l + 1) (by omega)
  rw [show K - (l + 1) = d by omega] at this
  exact this
theorem wy_sty (hE : wy_ev M wh a b T K) (hl : l + (d + 1) = K) (hw : wh l = true) (hk : wy_kr (wy_w wh a b T (d + 1) l) k f) :
    ((∀ n, n < 12 → wy_in (wy_fw f (a l) (b l) 1 n) (wy_w wh a b T d (l + 1) n).1) → wy_kr (wy_w wh a b T d (l + 1)) (wy_ky M a b l k) (wy_fw f (a l) (b l) 1)) ∧ ((¬ ∀ n, n < 12 → wy_in (wy_fw f (a l) (b l) 1 n) (wy_w wh a b T d (l + 1) n).1) → wy_ky M a b l k = -1) := by
  obtain ⟨h1, h2, h3⟩ := hE.2.1 l (by omega)
  have hK := hE.1
  exact wy_stw (y := 1) (by omega) (wy_ev_w hE hl) h1 h2 h3 (fun n _ => by rw [← wy_op_w hw n]; rfl) hk (Or.inr rfl)
theorem wy_stn (hE : wy_ev M wh a b T K) (hl : l + (d + 1) = K) (hw : wh l = true) (hk : wy_kr (wy_w wh a b T (d + 1) l) k f) :
    ((∀ n, n < 12 → wy_in (wy_fw f (a l) (b l) 0 n) (wy_w wh a b T d (l + 1) n).1) → wy_kr (wy_w wh a b T d (l + 1)) (wy_kn M a b l k) (wy_fw f (a l) (b l) 0)) ∧ ((¬ ∀ n, n < 12 → wy_in (wy_fw f (a l) (b l) 0 n) (wy_w wh a b T d (l + 1) n).1) → wy_kn M a b l k = -1) := by
  obtain ⟨h1, h2, h3⟩ := hE.2.1 l (by omega)
  have hK := hE.1
  exact wy_stw (y := 0) (by omega) (wy_ev_w hE hl) h1 h2 h3 (fun n _ => by rw [← wy_op_w hw n]; rfl) hk (Or.inl rfl)
theorem wy_stc2 (hE : wy_ev M wh a b T K) (hl : l + (d + 1) = K) (hw : ¬ wh l = true) (hk : wy_kr (wy_w wh a b T (d + 1) l) k f) :
    ((∀ n, n < 12 → wy_in (wy_fc f (a l) (b l) n) (wy_w wh a b T d (l + 1) n).1) → wy_kr (wy_w wh a b T d (l + 1)) (wy_kc M a b l k) (wy_fc f (a l) (b l))) ∧ ((¬ ∀ n, n < 12 → wy_in (wy_fc f (a l) (b l) n) (wy_w wh a b T d (l + 1) n).1) → wy_kc M a b l k = -1) := by
  obtain ⟨h1, h2, h3⟩ := hE.2.1 l (by omega)
  have hK := hE.1
  exact wy_stc (by omega) (wy_ev_w hE hl) h1 h2 h3 (fun n _ => by rw [← wy_op_c hw n]; rfl) hk
theorem wy_neg : (-1 : Int64) < 0 := by decide
theorem wy_kr_v {W : Nat → wy_W} {g : Nat → Int} (h : wy_kr W k f) (e : ∀ n, n < 12 → g n = f n) : wy_kr W k g := wy_kr_c h (fun n hn => ⟨rfl, e n hn⟩)
theorem wy_ite_map {c : Prop} [Decidable c] {X : List (Nat × Nat)} {g : Nat × Nat → Nat × Nat} : (if c then [] else X).map g = if c then [] else X.map g := by
  by_cases h : c
  · rw [if_pos h, if_pos h]; rfl
  · rw [if_neg h, if_neg h]
set_option maxHeartbeats 4000000 in
/-- the ways from purses on: as from their key, if it has one; none, if not -/
theorem wy_RG {td : pu_T → Bool} (hE : wy_ev M wh a b T K) (ht : ∀ S, wy_ok S → (td S = true ↔ ∀ n, n < 12 → wy_in (wy_v S n) (T n).1)) : ∀ (d l : Nat) (S : pu_T), l + d = K → wy_ok S →
    (∀ k, wy_kr (wy_w wh a b T d l) k (wy_v S) → wy_R wh a b td d l S = wy_G wh (wy_ky M a b) (wy_kn M a b) (wy_kc M a b) d l k) ∧ ((¬ ∀ n, n < 12 → wy_in (wy_v S n) (wy_w wh a b T d l n).1) → wy_R wh a b td d l S = [])
  | 0, l, S, hl, hS => by
    refine ⟨fun k hk => ?_, fun h => ?_⟩
    · have t : td S = true := (ht S hS).mpr (fun n hn => (hk.1 n hn).1)
      unfold wy_R wy_G
      rw [if_pos t]
    · have t : ¬ td S = true := fun q => h ((ht S hS).mp q)
      unfold wy_R
      rw [if_neg t]
  | d + 1, l, S, hl, hS => by
    obtain ⟨h1, h2, h3⟩ := hE.2.1 l (by omega)
    have zz : ∀ n, n < 12 → wy_z (wy_w wh a b T d (l + 1) n) := fun n hn => (wy_ev_w hE hl n hn).2.2.2.2
    have IH := fun Q (hQ : wy_ok Q) => wy_RG hE ht d (l + 1) Q (by omega) hQ
    by_cases hw : wh l = true
    · have va := hS (a l) (by omega)
      have vb := hS (b l) (by omega)
      have vc := hS (6 + a l) (by omega)
      have Wa : wy_w wh a b T (d + 1) l (a l) = wy_bw 1 (wy_w wh a b T d (l + 1) (a l)) := by
        show wy_bw (wy_op wh a b l (a l)) _ = _
        rw [wy_op_w hw, if_pos rfl]
      have Wb : wy_w wh a b T (d + 1) l (b l) = wy_bw 3 (wy_w wh a b T d (l + 1) (b l)) := by
        show wy_bw (wy_op wh a b l (b l)) _ = _
        rw [wy_op_w hw, if_neg (fun q => h3 q.symm), if_pos (Or.inl rfl)]
      have Wc : wy_w wh a b T (d + 1) l (6 + a l) = wy_bw 3 (wy_w wh a b T d (l + 1) (6 + a l)) := by
        show wy_bw (wy_op wh a b l (6 + a l)) _ = _
        rw [wy_op_w hw, if_neg (by omega), if_pos (Or.inr rfl)]
      have Wn : ∀ n, n ≠ a l → n ≠ b l → n ≠ 6 + a l → wy_w wh a b T (d + 1) l n = wy_w wh a b T d (l + 1) n := by
        intro n n1 n2 n3
        show wy_bw (wy_op wh a b l n) _ = _
        rw [wy_op_w hw, if_neg n1, if_neg (fun z => z.elim n2 n3)]; rfl
      have okf : ∀ y : Int, y = 0 ∨ y = 1 → pu_mw S (a l) (b l) = true → ∀ n, n < 12 → 0 ≤ wy_fw (wy_v S) (a l) (b l) y n ∧ wy_fw (wy_v S) (a l) (b l) y n ≤ 20 := by
        intro y hy hm n hn
        obtain ⟨m1, m2, m3⟩ := (wy_mw h1 h2).mp hm
        obtain ⟨g1, g2, g3, g4⟩ := wy_fw_e (f := wy_v S) (y := y) h1 h2 h3
        by_cases q : n = a l
        · rw [q, g1]; omega
        · by_cases r : n = b l
          · rw [r, g2]; omega
          · by_cases s : n = 6 + a l
            · rw [s, g3]; omega
            · rw [g4 n q r s]; exact hS n hn
      have back : ∀ y : Int, y = 0 ∨ y = 1 → pu_mw S (a l) (b l) = true → (∀ n, n < 12 → wy_in (wy_fw (wy_v S) (a l) (b l) y n) (wy_w wh a b T d (l + 1) n).1) → ∀ n, n < 12 → wy_in (wy_v S n) (wy_w wh a b T (d + 1) l n).1 := by
        intro y hy hm hi n hn
        obtain ⟨m1, m2, m3⟩ := (wy_mw h1 h2).mp hm
        obtain ⟨g1, g2, g3, g4⟩ := wy_fw_e (f := wy_v S) (y := y) h1 h2 h3
        have i := hi n hn
        by_cases q : n = a l
        · subst q
          rw [g1] at i
          obtain ⟨i1, i2⟩ := i
          rw [Wa]
          exact wy_in_bd.mpr ⟨by omega, by omega, by omega, by omega⟩
        · by_cases r : n = b l
          · subst r
            rw [g2] at i
            obtain ⟨i1, i2⟩ := i
            rw [Wb]
            exact wy_in_bd.mpr ⟨by omega, by omega, by omega, by omega⟩
          · by_cases s : n = 6 + a l
            · subst s
              rw [g3] at i
              obtain ⟨i1, i2⟩ := i
              rw [Wc]
              exact wy_in_bd.mpr ⟨by omega, by omega, by omega, by omega⟩
            · rw [Wn n q r s]
              rw [g4 n q r s] at i
              exact i
      have eR : wy_R wh a b td (d + 1) l S = if pu_mw S (a l) (b l) = true then wy_R wh a b td d (l + 1) (pu_gw S (a l) (b l)) ++ (wy_R wh a b td d (l + 1) (pu_rf S (a l))).map (wy_no l) else [] := by
        rw [wy_R, if_pos hw]
      rw [eR]
      constructor
      · intro k hk
        have hm : pu_mw S (a l) (b l) = true := by
          refine (wy_mw h1 h2).mpr ⟨?_, ?_, ?_⟩
          · have i := (hk.1 (a l) (by omega)).1
            rw [Wa] at i
            obtain ⟨i1, i2, i3, i4⟩ := wy_in_bd.mp i
            obtain ⟨z1, z2, z3⟩ := zz (a l) (by omega)
            rcases z1 with z1 | z1
            · omega
            · rw [z1] at i2
              simp only at i2
              omega
          · have i := (hk.1 (b l) (by omega)).1
            rw [Wb] at i
            obtain ⟨i1, i2, i3, i4⟩ := wy_in_bd.mp i
            omega
          · have i := (hk.1 (6 + a l) (by omega)).1
            rw [Wc] at i
            obtain ⟨i1, i2, i3, i4⟩ := wy_in_bd.mp i
            omega
        rw [if_pos hm, wy_G, if_pos hw]
        have o1 : wy_ok (pu_gw S (a l) (b l)) := fun n hn => by rw [wy_v_gw hS h1 h2 h3 n hn]; exact okf 1 (Or.inr rfl) hm n hn
        have o2 : wy_ok (pu_rf S (a l)) := fun n hn => by rw [wy_v_rf hS h1 h2 h3 n hn]; exact okf 0 (Or.inl rfl) hm n hn
        have s1 := wy_sty hE hl hw hk
        have s2 := wy_stn hE hl hw hk
        have p1 : wy_R wh a b td d (l + 1) (pu_gw S (a l) (b l)) = if wy_ky M a b l k < 0 then [] else wy_G wh (wy_ky M a b) (wy_kn M a b) (wy_kc M a b) d (l + 1) (wy_ky M a b l k) := by
          by_cases c : ∀ n, n < 12 → wy_in (wy_fw (wy_v S) (a l) (b l) 1 n) (wy_w wh a b T d (l + 1) n).1
          · have k2 := s1.1 c
            rw [if_neg (wy_kr_p k2).2]
            exact (IH _ o1).1 _ (wy_kr_v k2 (wy_v_gw hS h1 h2 h3))
          · rw [s1.2 c, if_pos wy_neg]
            exact (IH _ o1).2 (fun h => c (fun n hn => by rw [← wy_v_gw hS h1 h2 h3 n hn]; exact h n hn))
        have p2 : wy_R wh a b td d (l + 1) (pu_rf S (a l)) = if wy_kn M a b l k < 0 then [] else wy_G wh (wy_ky M a b) (wy_kn M a b) (wy_kc M a b) d (l + 1) (wy_kn M a b l k) := by
          by_cases c : ∀ n, n < 12 → wy_in (wy_fw (wy_v S) (a l) (b l) 0 n) (wy_w wh a b T d (l + 1) n).1
          · have k2 := s2.1 c
            rw [if_neg (wy_kr_p k2).2]
            exact (IH _ o2).1 _ (wy_kr_v k2 (wy_v_rf hS h1 h2 h3))
          · rw [s2.2 c, if_pos wy_neg]
            exact (IH _ o2).2 (fun h => c (fun n hn => by rw [← wy_v_rf hS h1 h2 h3 n hn]; exact h n hn))
        rw [p1, p2, wy_ite_map]
      · intro h
        by_cases hm : pu_mw S (a l) (b l) = true
        · rw [if_pos hm]
          have o1 : wy_ok (pu_gw S (a l) (b l)) := fun n hn => by rw [wy_v_gw hS h1 h2 h3 n hn]; exact okf 1 (Or.inr rfl) hm n hn
          have o2 : wy_ok (pu_rf S (a l)) := fun n hn => by rw [wy_v_rf hS h1 h2 h3 n hn]; exact okf 0 (Or.inl rfl) hm n hn
          rw [(IH _ o1).2 (fun g => h (back 1 (Or.inr rfl) hm (fun n hn => by rw [← wy_v_gw hS h1 h2 h3 n hn]; exact g n hn))), (IH _ o2).2 (fun g => h (back 0 (Or.inl rfl) hm (fun n hn => by rw [← wy_v_rf hS h1 h2 h3 n hn]; exact g n hn)))]
          rfl
        · rw [if_neg hm]
    · have va := hS (6 + a l) (by omega)
      have vb := hS (6 + b l) (by omega)
      have Wa : wy_w wh a b T (d + 1) l (6 + a l) = wy_bw 1 (wy_w wh a b T d (l + 1) (6 + a l)) := by
        show wy_bw (wy_op wh a b l (6 + a l)) _ = _
        rw [wy_op_c hw, if_pos rfl]
      have Wb : wy_w wh a b T (d + 1) l (6 + b l) = wy_bw 2 (wy_w wh a b T d (l + 1) (6 + b l)) := by
        show wy_bw (wy_op wh a b l (6 + b l)) _ = _
        rw [wy_op_c hw, if_neg (by omega), if_pos rfl]
      have Wn : ∀ n, n ≠ 6 + a l → n ≠ 6 + b l → wy_w wh a b T (d + 1) l n = wy_w wh a b T d (l + 1) n := by
        intro n n1 n2
        show wy_bw (wy_op wh a b l n) _ = _
        rw [wy_op_c hw, if_neg n1, if_neg n2]; rfl
      obtain ⟨g1, g2, g4⟩ := wy_fc_e (f := wy_v S) h3
      have okf : pu_mc S (a l) (b l) = true → wy_ok (pu_gc S (a l) (b l)) := by
        intro hm n hn
        obtain ⟨m1, m2⟩ := wy_mc.mp hm
        rw [wy_v_gc hS h1 h2 h3 n hn]
        by_cases q : n = 6 + a l
        · rw [q, g1]; omega
        · by_cases r : n = 6 + b l
          · rw [r, g2]; omega
          · rw [g4 n q r]; exact hS n hn
      have eR : wy_R wh a b td (d + 1) l S = if pu_mc S (a l) (b l) = true then wy_R wh a b td d (l + 1) (pu_gc S (a l) (b l)) else [] := by
        rw [wy_R, if_neg hw]
      rw [eR]
      constructor
      · intro k hk
        have hm : pu_mc S (a l) (b l) = true := by
          refine wy_mc.mpr ⟨?_, ?_⟩
          · have i := (hk.1 (6 + a l) (by omega)).1
            rw [Wa] at i
            obtain ⟨i1, i2, i3, i4⟩ := wy_in_bd.mp i
            obtain ⟨z1, z2, z3⟩ := zz (6 + a l) (by omega)
            rcases z1 with z1 | z1
            · omega
            · rw [z1] at i2
              simp only at i2
              omega
          · have i := (hk.1 (6 + b l) (by omega)).1
            rw [Wb] at i
            obtain ⟨i1, i2, i3, i4⟩ := wy_in_bd.mp i
            omega
        rw [if_pos hm, wy_G, if_neg hw]
        have s1 := wy_stc2 hE hl hw hk
        by_cases c : ∀ n, n < 12 → wy_in (wy_fc (wy_v S) (a l) (b l) n) (wy_w wh a b T d (l + 1) n).1
        · have k2 := s1.1 c
          rw [if_neg (wy_kr_p k2).2]
          exact (IH _ (okf hm)).1 _ (wy_kr_v k2 (wy_v_gc hS h1 h2 h3))
        · rw [s1.2 c, if_pos wy_neg]
          exact (IH _ (okf hm)).2 (fun h => c (fun n hn => by rw [← wy_v_gc hS h1 h2 h3 n hn]; exact h n hn))
      · intro h
        by_cases hm : pu_mc S (a l) (b l) = true
        · rw [if_pos hm]
          obtain ⟨m1, m2⟩ := wy_mc.mp hm
          refine (IH _ (okf hm)).2 (fun g => h (fun n hn => ?_))
          have i := g n hn
          rw [wy_v_gc hS h1 h2 h3 n hn] at i
          by_cases q : n = 6 + a l
          · subst q
            rw [g1] at i
            obtain ⟨i1, i2⟩ := i
            rw [Wa]
            exact wy_in_bd.mpr ⟨by omega, by omega, by omega, by omega⟩
          · by_cases r : n = 6 + b l
            · subst r
              rw [g2] at i
              obtain ⟨i1, i2⟩ := i
              rw [Wb]
              exact wy_in_bd.mpr ⟨by omega, by omega, by omega, by omega⟩
            · rw [Wn n q r]
              rw [g4 n q r] at i
              exact i
        · rw [if_neg hm]
end ST
end WYC

