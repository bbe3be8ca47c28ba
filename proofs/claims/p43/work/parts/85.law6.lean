/-! the law's text: all its lines -/
section LAW6
theorem x213 {B C : ro_Mm} {r : Nat} (e : ((61 : Int32) + B.2.1 176 1).toNatClampNeg = r) (hr : vp_in ((61 : Int32) + B.2.1 176 1) 122) (hC : xm_214o (ro_sI B 177 r (vp_nar .short ((B.2.1 163 18).toInt16.toInt32))) = C) :
    (0 ≤ C.2.1 163 16 → xm_213 B = ro_sI (ro_sI C 178 r (vp_nar .short ((C.2.1 163 18).toInt16.toInt32))) 176 1 (C.2.1 176 1 + 1) ∧ (xp_214o (ro_sI B 177 r (vp_nar .short ((B.2.1 163 18).toInt16.toInt32))) → xp_213 B)) ∧
    (¬ 0 ≤ C.2.1 163 16 → xp_220 C →
      (xf_220 C = 63 → xm_213 B = ro_sI (ro_sI (xm_214o (ro_sI (nxB C) 177 r (vp_nar .short ((C.2.1 163 18).toInt16.toInt32)))) 178 r (vp_nar .short (((xm_214o (ro_sI (nxB C) 177 r (vp_nar .short ((C.2.1 163 18).toInt16.toInt32)))).2.1 163 18).toInt16.toInt32))) 176 1 ((xm_214o (ro_sI (nxB C) 177 r (vp_nar .short ((C.2.1 163 18).toInt16.toInt32)))).2.1 176 1 + 1) ∧
        (xp_214o (ro_sI B 177 r (vp_nar .short ((B.2.1 163 18).toInt16.toInt32))) → xp_214o (ro_sI (nxB C) 177 r (vp_nar .short ((C.2.1 163 18).toInt16.toInt32))) → xp_213 B)) ∧
      (¬ xf_220 C = 63 → xm_213 B = ro_sI (ro_sI C 178 r (vp_nar .short ((C.2.1 163 18).toInt16.toInt32))) 176 1 (C.2.1 176 1 + 1) ∧ (xp_214o (ro_sI B 177 r (vp_nar .short ((B.2.1 163 18).toInt16.toInt32))) → xp_213 B))) := by
  unfold xm_213 xp_213
  rw [e, hC]
  refine ⟨fun f => ?_, fun f p => ⟨fun g => ?_, fun g => ?_⟩⟩
  · rw [if_pos f]
    exact ⟨rfl, fun x => ⟨hr, x, fun _ => ⟨hr, trivial⟩, fun y => absurd f y⟩⟩
  · rw [if_neg f, if_pos g]
    exact ⟨rfl, fun x y => ⟨hr, x, fun y => absurd y f, fun _ => ⟨p, fun _ => ⟨hr, y, hr, trivial⟩, fun y => absurd g y⟩⟩⟩
  · rw [if_neg f, if_neg g]
    exact ⟨rfl, fun x => ⟨hr, x, fun y => absurd y f, fun _ => ⟨p, fun y => absurd y g, fun _ => ⟨hr, trivial⟩⟩⟩⟩
def lo (z : Nat) (t s : Nat → Int32) (A0 B0 : ro_Mm) (val : Bool) (A B : ro_Mm) : Prop := pf_A A0 A ∧ pg_B B0 B ∧
  ((val = true ∧ ∃ L, L ≠ [] ∧ L.length ≤ 61 ∧ (lw_codes L).length ≤ 121 ∧ ls_S z t s L A B z) ∨ (val = false ∧ ∃ a', a' ≤ z ∧ A.2.1 16 6 = nI a' ∧ B.2.1 163 15 = nI a' ∧ (B.2.1 163 16 = nI a' ∨ (B.2.1 163 16 = -1 ∧ a' < z))))
section LS
variable {z : Nat} {t s q : Nat → Int32}
theorem dg_t {A : ro_Mm} {a : Nat} (T : pT 130 z t s q) (h5 : A.2.1 16 5 = nI z) (h17 : ∀ i, i < z → A.2.1 17 i = t i) (h6 : A.2.1 16 6 = nI a) (ha : a ≤ z) (hd : pd (pq z q a) = true) : ¬ xf_48 A = 63 ∧ ¬ xf_48 A = 59 ∧ ¬ A.2.1 16 6 = A.2.1 16 5 := by
  have hz := T.hz
  have hk := pk_A T h5 h17 h6 ha
  obtain ⟨n1, n2, n3, n4, n5⟩ := pd_no (M := A) (l := 0) hd
  refine ⟨fun e => n3 ((pk_e hk (by decide) (by decide)).mp e), fun e => n4 ((pk_e hk (by decide) (by decide)).mp e), fun e => ?_⟩
  rw [h5, h6] at e
  have e2 := (nI_eq (by omega) (by omega)).mp e
  apply n5
  unfold pq
  rw [if_neg (by omega)]
theorem ls_loop (T : ∀ bz, bz ≤ 130 → pT bz z t s q) {A0 B0 : ro_Mm} {v1 : Int32} : ∀ (d a i n n2 : Nat) (A B : ro_Mm) (L : List (List Int32 × List Int32)), a + d = z → d < n → d < n2 → 2 * L.length ≤ a → i ≤ a → (lw_codes L).length ≤ a → ls_S z t s L A B a → pf_A A0 A → pg_B B0 B →
    xq_45_2 n A (nI i) ∧ xp_213 B ∧ xq_212_31 n2 (xm_213 B) v1 ∧ (xg_45_2 n A (nI i)).1 = true ∧ lo z t s A0 B0 (xg_45_2 n A (nI i)).2.1 (xg_45_2 n A (nI i)).2.2.2 (xg_212_31 n2 (xm_213 B) v1) := by
  have hz := (T 130 (Nat.le_refl _)).hz
  intro d
  induction d using Nat.strongRecOn with
  | _ d ih =>
    intro a i n n2 A B L hd hn hn2 h2l hi hcl hS hfA hgB
    cases n with
    | zero => omega
    | succ n =>
      cases n2 with
      | zero => omega
      | succ n2 =>
        have Tb := T (130 - L.length) (by omega)
        have cn := lw_cn L
        have c0 : ¬ (120 : Int32) < nI i := nI_nlt (a := 120) (b := i) (by omega) (by omega)
        have hA := hS.1
        have hB := hS.2.1
        have h176 := hS.2.2.2.2.2.1
        have e61 : (61 : Int32) + B.2.1 176 1 = nI (61 + L.length) := by rw [h176]; exact nI_add 61 _
        have er : ((61 : Int32) + B.2.1 176 1).toNatClampNeg = 61 + L.length := by rw [e61]; exact nI_clamp (by omega)
        have hr : vp_in ((61 : Int32) + B.2.1 176 1) 122 := by rw [e61]; exact ro_vn (by omega) (by omega)
        have e18 : B.2.1 163 18 = nI (lw_steps L).length := ls_18 hB (by omega)
        have hB1 : ps_B (130 - L.length) z s (ro_sI B 177 (61 + L.length) (vp_nar .short ((B.2.1 163 18).toInt16.toInt32))) a (lw_codes L).length 0 := by
          obtain ⟨b1, b2, b3, b4, b5, b6⟩ := hB
          refine ⟨?_, fun i hi => ?_, ?_, ?_, ?_, ?_⟩
          · rw [ro_sI_ne (by decide)]; exact b1
          · rw [ro_sI_ne (by decide)]; exact b2 i hi
          · rw [ro_sI_ne (by decide)]; exact b3
          · rw [ro_sI_ne (by decide)]; exact b4
          · rw [ro_sI_ne (by decide)]; exact b5
          · rw [ro_sI_ne (by decide)]; exact b6
        have g1 : pg_B B (ro_sI B 177 (61 + L.length) (vp_nar .short ((B.2.1 163 18).toInt16.toInt32))) := pg_177 (by omega)
        obtain ⟨s1, s2, s3, s4, a1, s5, s6, s7⟩ := op_top Tb A _ a (lw_codes L).length hA hB1 (by omega) (by omega)
        generalize hC : xm_214o (ro_sI B 177 (61 + L.length) (vp_nar .short ((B.2.1 163 18).toInt16.toInt32))) = C at *
        obtain ⟨x1, x2⟩ := x213 er hr hC
        have gC : pg_B B0 C := pg_B_t hgB (pg_B_t g1 (pg_of s4))
        have C176 : C.2.1 176 1 = nI L.length := by
          rw [s4.2.2 176 1 (by omega) (by omega), ro_sI_ne (by decide)]; exact h176
        have Crow : ∀ l, C.2.1 178 l = B.2.1 178 l ∧ (l ≠ 61 + L.length → C.2.1 177 l = B.2.1 177 l) := fun l => by
          refine ⟨?_, fun hl => ?_⟩
          · rw [s4.2.2 178 l (by omega) (by omega), ro_sI_ne (by decide)]
          · rw [s4.2.2 177 l (by omega) (by omega), ro_rd_s, if_neg (by omega)]
        have C177 : C.2.1 177 (61 + L.length) = nI (lw_steps L).length := by
          rw [s4.2.2 177 _ (by omega) (by omega), ro_rd_s, if_pos ⟨rfl, rfl⟩, e18, nar_s _ (by omega)]
        have tt : (true = true) := rfl
        -- behind a line
        have TAIL : ∀ (A4 F : ro_Mm) (L' : List (List Int32 × List Int32)) (a2 : Nat), a < a2 → a2 ≤ z → L' ≠ [] → L'.length = L.length + 1 → (lw_codes L').length ≤ a2 + 1 → ls_S z t s L' A4 F a2 → pf_A A0 A4 → pg_B B0 F →
            ((xf_48 A4 = 59 → xq_45_2 n (ro_sI A4 16 6 (A4.2.1 16 6 + 1)) (nI i + 1)) ∧ (¬ xf_48 A4 = 59 → True)) ∧ xq_212_31 (n2 + 1) F v1 ∧
            (if xf_48 A4 = 59 then xg_45_2 n (ro_sI A4 16 6 (A4.2.1 16 6 + 1)) (nI i + 1) else if A4.2.1 16 6 = A4.2.1 16 5 then (true, true, nI i, A4) else (true, false, nI i, A4)).1 = true ∧
            lo z t s A0 B0 (if xf_48 A4 = 59 then xg_45_2 n (ro_sI A4 16 6 (A4.2.1 16 6 + 1)) (nI i + 1) else if A4.2.1 16 6 = A4.2.1 16 5 then (true, true, nI i, A4) else (true, false, nI i, A4)).2.1 (if xf_48 A4 = 59 then xg_45_2 n (ro_sI A4 16 6 (A4.2.1 16 6 + 1)) (nI i + 1) else if A4.2.1 16 6 = A4.2.1 16 5 then (true, true, nI i, A4) else (true, false, nI i, A4)).2.2.2 (xg_212_31 (n2 + 1) F v1) := by
          intro A4 F L' a2 h1 h2 h3 h4 h5 hS' hfA' hgB'
          have T1 := T 130 (Nat.le_refl _)
          have hk := pk_A T1 hS'.1.1 hS'.1.2.1 hS'.1.2.2.1 h2
          obtain ⟨hkB, hpB⟩ := pk_B T1 hS'.2.1.1 hS'.2.1.2.1 hS'.2.1.2.2.1 h2
          have f0 : ¬ 0 ≤ F.2.1 163 16 := by rw [hS'.2.1.2.2.2.1]; decide
          by_cases c : pq z q a2 = 59
          · have az : a2 < z := by
              by_cases y : a2 < z
              · exact y
              · unfold pq at c; rw [if_neg y] at c; exact absurd c (by decide)
            have k1 : xf_48 A4 = 59 := (pk_e hk (by decide) (by decide)).mpr c
            have k2 : xf_220 F = 59 := (pk_e hkB (by decide) (by decide)).mpr c
            obtain ⟨nA, fA, kA⟩ := ps_nA hS'.1
            obtain ⟨nB, fB, kB⟩ := ps_nB hS'.2.1
            have hS2 : ls_S z t s L' (nxA A4) (nxB F) (a2 + 1) := by
              obtain ⟨w1, w2, w3, w4, w5, w6, w7⟩ := hS'
              refine ⟨nA, nB, w3, fun j hj => (kA j).trans (w4 j hj), fun j hj => ?_, ?_, fun l hl => ?_⟩
              · rw [kB _ _ (by decide), kB _ _ (by decide)]; exact w5 j hj
              · rw [kB _ _ (by decide)]; exact w6
              · rw [kB _ _ (by decide), kB _ _ (by decide)]; exact w7 l hl
            obtain ⟨i1, i2, i3, i4, i5⟩ := ih (z - (a2 + 1)) (by omega) (a2 + 1) (i + 1) n n2 (nxA A4) (nxB F) L' (by omega) (by omega) (by omega) (by omega) (by omega) (by omega) hS2 (pf_A_t hfA' fA) (pg_B_t hgB' (pg_of fB))
            rw [if_pos k1, nI_1 i, xg_212_31, xq_212_31, if_neg f0, if_pos k2]
            exact ⟨⟨fun _ => i1, fun _ => trivial⟩, ⟨fun y => absurd y f0, fun _ => ⟨hpB, fun _ => ⟨i2, i3⟩, fun y => absurd k2 y⟩⟩, i4, i5⟩
          · have k1 : ¬ xf_48 A4 = 59 := fun e => c ((pk_e hk (by decide) (by decide)).mp e)
            have k2 : ¬ xf_220 F = 59 := fun e => c ((pk_e hkB (by decide) (by decide)).mp e)
            have k3 : (A4.2.1 16 6 = A4.2.1 16 5) ↔ a2 = z := by rw [hS'.1.1, hS'.1.2.2.1]; exact nI_eq (by omega) (by omega)
            rw [if_neg k1, xg_212_31, xq_212_31, if_neg f0, if_neg k2]
            refine ⟨⟨fun y => absurd y k1, fun _ => trivial⟩, ⟨fun y => absurd y f0, fun _ => ⟨hpB, fun y => absurd y k2, fun _ => trivial⟩⟩, ?_⟩
            by_cases k4 : a2 = z
            · rw [if_pos (k3.mpr k4)]
              subst k4
              exact ⟨rfl, hfA', hgB', Or.inl ⟨rfl, L', h3, by omega, by omega, hS'⟩⟩
            · rw [if_neg (fun e => k4 (k3.mp e))]
              exact ⟨rfl, hfA', hgB', Or.inr ⟨rfl, a2, h2, hS'.1.2.2.1, hS'.2.1.2.2.1, Or.inr ⟨hS'.2.1.2.2.2.1, by omega⟩⟩⟩
        -- a fault: both stop
        have FLT : ∀ (D : ro_Mm) (a' : Nat), a' ≤ z → D.2.1 163 16 = nI a' → xg_212_31 (n2 + 1) D v1 = D ∧ xq_212_31 (n2 + 1) D v1 := fun D a' ha' hD => by
          have f0 : 0 ≤ D.2.1 163 16 := by rw [hD]; exact nI_pos' (by omega)
          rw [xg_212_31, xq_212_31, if_pos f0]
          exact ⟨rfl, fun _ => trivial, fun y => absurd f0 y⟩
        have hf5 : ∀ A' : ro_Mm, pf_A A A' → A'.2.1 16 5 = nI z ∧ ∀ i, i < z → A'.2.1 17 i = t i := fun A' hf => ⟨by rw [hf.2.2 16 5 (by omega) (by decide)]; exact hA.1, fun i hi => by rw [hf.2.2 17 i (by omega) (by decide)]; exact hA.2.1 i hi⟩
        rcases s7 with ⟨r1, r2, ws1, r3, r4, r5, r6, r7⟩ | ⟨r1, r2, r3, r4, k', r5, r6⟩
        · -- a first value
          have r1 : xf_46 A 0 0 = true := r1
          have l1 := wf_pos r3
          have f0 : ¬ 0 ≤ C.2.1 163 16 := by rw [r6.2.2.2.1]; decide
          have hk : pk (xf_48 (xm_46 A 0 0)) (pq z q a1) := pk_A Tb r5.1 r5.2.1 r5.2.2.1 s6
          obtain ⟨hkB, hpB⟩ := pk_B Tb r6.1 r6.2.1 r6.2.2.1 s6
          obtain ⟨x3, x4⟩ := x2 f0 hpB
          have plC : pl (130 - L.length) A (xm_46 A 0 0) B C (lw_codes L).length := fun j hj => by
            have := r2 j hj
            rw [ro_sI_ne (show (174 : Nat) ≠ 177 by decide), ro_sI_ne (show (175 : Nat) ≠ 177 by decide)] at this
            exact this
          have C18 : C.2.1 163 18 = nI ((lw_steps L).length + ws1.length) := ls_18 r6 (by omega)
          by_cases c : pq z q a1 = 63
          · -- a test: the value behind it
            have az : a1 < z := by
              by_cases y : a1 < z
              · exact y
              · unfold pq at c; rw [if_neg y] at c; exact absurd c (by decide)
            have k1 : xf_48 (xm_46 A 0 0) = 63 := (pk_e hk (by decide) (by decide)).mpr c
            have k2 : xf_220 C = 63 := (pk_e hkB (by decide) (by decide)).mpr c
            obtain ⟨y1, y2⟩ := x3 k2
            obtain ⟨nA, fA, kA⟩ := ps_nA r5
            obtain ⟨nB, fB, kB⟩ := ps_nB r6
            have hD : ps_B (130 - L.length) z s (ro_sI (nxB C) 177 (61 + L.length) (vp_nar .short ((C.2.1 163 18).toInt16.toInt32))) (a1 + 1) ((lw_codes L).length + ws1.length) 0 := by
              obtain ⟨b1, b2, b3, b4, b5, b6⟩ := nB
              refine ⟨?_, fun i hi => ?_, ?_, ?_, ?_, ?_⟩
              · rw [ro_sI_ne (by decide)]; exact b1
              · rw [ro_sI_ne (by decide)]; exact b2 i hi
              · rw [ro_sI_ne (by decide)]; exact b3
              · rw [ro_sI_ne (by decide)]; exact b4
              · rw [ro_sI_ne (by decide)]; exact b5
              · rw [ro_sI_ne (by decide)]; exact b6
            obtain ⟨t1, t2, t3, t4, a2, t5, t6, t7⟩ := op_top Tb (nxA (xm_46 A 0 0)) _ (a1 + 1) ((lw_codes L).length + ws1.length) nA hD (by omega) (by omega)
            have D177 : (ro_sI (nxB C) 177 (61 + L.length) (vp_nar .short ((C.2.1 163 18).toInt16.toInt32))).2.1 177 (61 + L.length) = nI ((lw_steps L).length + ws1.length) := by
              rw [ro_rd_s, if_pos ⟨rfl, rfl⟩, C18, nar_s _ (by omega)]
            have D176 : (ro_sI (nxB C) 177 (61 + L.length) (vp_nar .short ((C.2.1 163 18).toInt16.toInt32))).2.1 176 1 = nI L.length := by
              rw [ro_sI_ne (by decide), kB _ _ (by decide)]; exact C176
            have Drow : ∀ l, l ≠ 61 + L.length → (ro_sI (nxB C) 177 (61 + L.length) (vp_nar .short ((C.2.1 163 18).toInt16.toInt32))).2.1 177 l = B.2.1 177 l ∧ (ro_sI (nxB C) 177 (61 + L.length) (vp_nar .short ((C.2.1 163 18).toInt16.toInt32))).2.1 178 l = B.2.1 178 l := fun l hl => by
              refine ⟨?_, ?_⟩
              · rw [ro_rd_s, if_neg (by omega), kB _ _ (by decide)]; exact (Crow l).2 hl
              · rw [ro_sI_ne (by decide), kB _ _ (by decide)]; exact (Crow l).1
            have gD : pg_B B0 (ro_sI (nxB C) 177 (61 + L.length) (vp_nar .short ((C.2.1 163 18).toInt16.toInt32))) := pg_B_t gC (pg_B_t (pg_of fB) (pg_177 (by omega)))
            have plD : pl (130 - L.length) (xm_46 A 0 0) (nxA (xm_46 A 0 0)) C (ro_sI (nxB C) 177 (61 + L.length) (vp_nar .short ((C.2.1 163 18).toInt16.toInt32))) ((lw_codes L).length + ws1.length) := fun j _ => by
              rw [ro_sI_ne (show (174 : Nat) ≠ 177 by decide), ro_sI_ne (show (175 : Nat) ≠ 177 by decide)]
              exact ⟨kA j, kB _ _ (by decide), kB _ _ (by decide)⟩
            generalize hDD : ro_sI (nxB C) 177 (61 + L.length) (vp_nar .short ((C.2.1 163 18).toInt16.toInt32)) = D at *
            have E176 : (xm_214o D).2.1 176 1 = nI L.length := by rw [t4.2.2 176 1 (by omega) (by omega)]; exact D176
            have eE : (xm_214o D).2.1 176 1 + 1 = nI (L.length + 1) := by rw [E176, nI_1]
            rw [eE] at y1
            rcases t7 with ⟨v1', v2, ws2, v3, v4, v5, v6, v7⟩ | ⟨v1', v2, v3, v4, k', v5, v6⟩
            · have v1' : xf_46 (nxA (xm_46 A 0 0)) 0 0 = true := v1'
              have l2 := wf_pos v3
              have l12 : (ws1 ++ ws2).length = ws1.length + ws2.length := List.length_append
              have ek : (lw_codes L).length + ws1.length + ws2.length = (lw_codes L).length + (ws1 ++ ws2).length := by rw [l12]; omega
              rw [ek] at v5 v6
              have hw := pw_app (pw_l r7 (pl_t plD v2 (Nat.le_refl _)) (Nat.le_refl _)) v7
              have ne1 : ¬ ws1 = [] := fun e => by rw [e] at l1; exact absurd l1 (by decide)
              have MK := ls_mk hS (by omega) (Or.inr r3) v3 v5 v6 (by omega) (pl_t plC (pl_t plD v2 (Nat.le_refl _)) (by omega)) hw E176 ((t4.2.2 177 _ (by omega) (by omega)).trans D177) (fun l hl => ⟨by rw [t4.2.2 177 _ (by omega) (by omega)]; exact (Drow _ (by omega)).1, by rw [t4.2.2 178 _ (by omega) (by omega)]; exact (Drow _ (by omega)).2⟩) (ec := -63) (by rw [if_neg ne1])
              obtain ⟨p1, p2⟩ := pf_51 (A := xm_46 (nxA (xm_46 A 0 0)) 0 0) (w := -63)
              have lc : (lw_codes (L ++ [(ws1, ws2)])).length ≤ a2 + 1 := by
                rw [lw_codes_a, lw_co1, List.length_append, List.length_append (bs := [_])]
                show (lw_codes L).length + ((ws1 ++ ws2).length + 1) ≤ _
                omega
              obtain ⟨u1, u2, u3, u4⟩ := TAIL _ _ (L ++ [(ws1, ws2)]) a2 (by omega) t6 (by simp) List.length_append lc MK (pf_A_t hfA (pf_A_t s3 (pf_A_t fA (pf_A_t t3 p1)))) (pg_B_t gD (pg_B_t (pg_of t4) (pg_B_t (pg_178 (by omega)) pg_176)))
              rw [y1, xg_45_2, xq_45_2, if_neg c0, if_pos r1, if_pos k1, if_pos v1']
              exact ⟨⟨fun y => absurd y c0, fun _ => ⟨s1, fun _ => ⟨fun _ => ⟨t1, fun _ => u1, fun y => absurd v1' y⟩, fun y => absurd k1 y⟩, fun y => absurd r1 y⟩⟩, y2 s2 t2, u2, u3, u4⟩
            · have e16 : (ro_sI (ro_sI (xm_214o D) 178 (61 + L.length) (vp_nar .short (((xm_214o D).2.1 163 18).toInt16.toInt32))) 176 1 (nI (L.length + 1))).2.1 163 16 = nI a2 := by
                rw [ro_sI_ne (by decide), ro_sI_ne (by decide)]; exact v3
              have e15 : (ro_sI (ro_sI (xm_214o D) 178 (61 + L.length) (vp_nar .short (((xm_214o D).2.1 163 18).toInt16.toInt32))) 176 1 (nI (L.length + 1))).2.1 163 15 = nI a2 := by
                rw [ro_sI_ne (by decide), ro_sI_ne (by decide)]; exact v4
              obtain ⟨w1, w2⟩ := FLT _ a2 t6 e16
              have gE : pg_B B0 (ro_sI (ro_sI (xm_214o D) 178 (61 + L.length) (vp_nar .short (((xm_214o D).2.1 163 18).toInt16.toInt32))) 176 1 (nI (L.length + 1))) := pg_B_t gD (pg_B_t (pg_of t4) (pg_B_t (pg_178 (by omega)) pg_176))
              rw [y1, w1, xg_45_2, xq_45_2, if_neg c0, if_pos r1, if_pos k1]
              by_cases ok : xf_46 (nxA (xm_46 A 0 0)) 0 0 = true
              · have hd2 : pd (pq z q a2) = true := by
                  rcases v1' with r | r
                  · have r : xf_46 (nxA (xm_46 A 0 0)) 0 0 = false := r
                    rw [ok] at r; exact absurd r (by decide)
                  · exact r
                obtain ⟨p1, p2⟩ := pf_51 (A := xm_46 (nxA (xm_46 A 0 0)) 0 0) (w := -63)
                have p3 := p2.trans v2
                obtain ⟨h5, h17⟩ := hf5 _ (pf_A_t s3 (pf_A_t fA (pf_A_t t3 p1)))
                obtain ⟨q1, q2, q3⟩ := dg_t (T 130 (Nat.le_refl _)) h5 h17 p3 t6 hd2
                rw [if_pos ok, if_neg q2, if_neg q3]
                exact ⟨⟨fun y => absurd y c0, fun _ => ⟨s1, fun _ => ⟨fun _ => ⟨t1, fun _ => ⟨fun y => absurd y q2, fun _ => trivial⟩, fun y => absurd ok y⟩, fun y => absurd k1 y⟩, fun y => absurd r1 y⟩⟩, y2 s2 t2, w2, rfl, pf_A_t hfA (pf_A_t s3 (pf_A_t fA (pf_A_t t3 p1))), gE, Or.inr ⟨rfl, a2, t6, p3, e15, Or.inl e16⟩⟩
              · rw [if_neg ok]
                exact ⟨⟨fun y => absurd y c0, fun _ => ⟨s1, fun _ => ⟨fun _ => ⟨t1, fun y => absurd y ok, fun _ => trivial⟩, fun y => absurd k1 y⟩, fun y => absurd r1 y⟩⟩, y2 s2 t2, w2, rfl, pf_A_t hfA (pf_A_t s3 (pf_A_t fA t3)), gE, Or.inr ⟨rfl, a2, t6, v2, e15, Or.inl e16⟩⟩
          · -- alone
            have k1 : ¬ xf_48 (xm_46 A 0 0) = 63 := fun e => c ((pk_e hk (by decide) (by decide)).mp e)
            have k2 : ¬ xf_220 C = 63 := fun e => c ((pk_e hkB (by decide) (by decide)).mp e)
            obtain ⟨y1, y2⟩ := x4 k2
            have eE : C.2.1 176 1 + 1 = nI (L.length + 1) := by rw [C176, nI_1]
            rw [eE] at y1
            have MK := ls_mk hS (by omega) (ws1 := []) (ws2 := ws1) (Or.inl rfl) r3 r5 r6 (by show (lw_codes L).length + ws1.length ≤ 120; omega) plC r7 C176 C177 (fun l hl => ⟨(Crow _).2 (by omega), (Crow _).1⟩) (ec := -59) rfl
            obtain ⟨p1, p2⟩ := pf_51 (A := xm_46 A 0 0) (w := -59)
            have lc : (lw_codes (L ++ [([], ws1)])).length ≤ a1 + 1 := by
              rw [lw_codes_a, lw_co1, List.length_append, List.length_append (bs := [_])]
              show (lw_codes L).length + (ws1.length + 1) ≤ _
              omega
            obtain ⟨u1, u2, u3, u4⟩ := TAIL _ _ (L ++ [([], ws1)]) a1 (by omega) s6 (by simp) List.length_append lc MK (pf_A_t hfA (pf_A_t s3 p1)) (pg_B_t gC (pg_B_t (pg_178 (by omega)) pg_176))
            rw [y1, xg_45_2, xq_45_2, if_neg c0, if_pos r1, if_neg k1]
            exact ⟨⟨fun y => absurd y c0, fun _ => ⟨s1, fun _ => ⟨fun y => absurd y k1, fun _ => u1⟩, fun y => absurd r1 y⟩⟩, y2 s2, u2, u3, u4⟩
        · -- a fault in the first
          have f0 : 0 ≤ C.2.1 163 16 := by rw [r3]; exact nI_pos' (by omega)
          obtain ⟨y1, y2⟩ := x1 f0
          have e16 : (ro_sI (ro_sI C 178 (61 + L.length) (vp_nar .short ((C.2.1 163 18).toInt16.toInt32))) 176 1 (C.2.1 176 1 + 1)).2.1 163 16 = nI a1 := by
            rw [ro_sI_ne (by decide), ro_sI_ne (by decide)]; exact r3
          have e15 : (ro_sI (ro_sI C 178 (61 + L.length) (vp_nar .short ((C.2.1 163 18).toInt16.toInt32))) 176 1 (C.2.1 176 1 + 1)).2.1 163 15 = nI a1 := by
            rw [ro_sI_ne (by decide), ro_sI_ne (by decide)]; exact r4
          obtain ⟨w1, w2⟩ := FLT _ a1 s6 e16
          have gE : pg_B B0 (ro_sI (ro_sI C 178 (61 + L.length) (vp_nar .short ((C.2.1 163 18).toInt16.toInt32))) 176 1 (C.2.1 176 1 + 1)) := pg_B_t gC (pg_B_t (pg_178 (by omega)) pg_176)
          rw [y1, w1, xg_45_2, xq_45_2, if_neg c0]
          by_cases ok : xf_46 A 0 0 = true
          · have hd2 : pd (pq z q a1) = true := by
              rcases r1 with r | r
              · have r : xf_46 A 0 0 = false := r
                rw [ok] at r; exact absurd r (by decide)
              · exact r
            obtain ⟨p1, p2⟩ := pf_51 (A := xm_46 A 0 0) (w := -59)
            have p3 := p2.trans r2
            obtain ⟨h5, h17⟩ := hf5 _ (pf_A_t s3 p1)
            obtain ⟨h5b, h17b⟩ := hf5 _ s3
            obtain ⟨q1, q2, q3⟩ := dg_t (T 130 (Nat.le_refl _)) h5 h17 p3 s6 hd2
            obtain ⟨q4, q5, q6⟩ := dg_t (T 130 (Nat.le_refl _)) h5b h17b r2 s6 hd2
            rw [if_pos ok, if_neg q4, if_neg q2, if_neg q3]
            exact ⟨⟨fun y => absurd y c0, fun _ => ⟨s1, fun _ => ⟨fun y => absurd y q4, fun _ => ⟨fun y => absurd y q2, fun _ => trivial⟩⟩, fun y => absurd ok y⟩⟩, y2 s2, w2, rfl, pf_A_t hfA (pf_A_t s3 p1), gE, Or.inr ⟨rfl, a1, s6, p3, e15, Or.inl e16⟩⟩
          · rw [if_neg ok]
            exact ⟨⟨fun y => absurd y c0, fun _ => ⟨s1, fun y => absurd y ok, fun _ => trivial⟩⟩, y2 s2, w2, rfl, pf_A_t hfA s3, gE, Or.inr ⟨rfl, a1, s6, r2, e15, Or.inl e16⟩⟩
end LS
end LAW6

