/-! the law's text: the five levels -/
section LAW3
theorem ops4 {M : ro_Mm} {v : Int32} (h : xf_54 M (nI 4) v = true) : v = 42 ∨ v = 47 ∨ v = 37 := by
  unfold xf_54 at h; rw [show nI 4 = 4 from rfl] at h; grind
theorem ops3 {M : ro_Mm} {v : Int32} (h : xf_54 M (nI 3) v = true) : v = 43 ∨ v = 45 := by
  unfold xf_54 at h; rw [show nI 3 = 3 from rfl] at h; grind
theorem ops2 {M : ro_Mm} {v : Int32} (h : xf_54 M (nI 2) v = true) : v = 60 ∨ v = 61 ∨ v = 62 := by
  unfold xf_54 at h; rw [show nI 2 = 2 from rfl] at h; grind
theorem ops1 {M : ro_Mm} {v : Int32} (h : xf_54 M (nI 1) v = true) : v = 38 := by
  unfold xf_54 at h; rw [show nI 1 = 1 from rfl] at h; grind
theorem ops0 {M : ro_Mm} {v : Int32} (h : xf_54 M (nI 0) v = true) : v = 124 := by
  unfold xf_54 at h; rw [show nI 0 = 0 from rfl] at h; grind
theorem ops_n {B M : ro_Mm} {l v c : Int32} (hk : pk (xf_220 B) v) (h : ¬ xf_54 M l v = true) (h0 : 0 ≤ c) (h1 : c ≤ 127) (hc : xf_54 M l c = true) : ¬ xf_220 B = c := fun e => h (by rw [(pk_e hk h0 h1).mp e]; exact hc)
section LV3
variable {bz z : Nat} {t s q : Nat → Int32} {F46 : ro_Mm → Int32 → Int32 → Bool × ro_Mm} {P46 : ro_Mm → Int32 → Int32 → Prop} {F47 : ro_Mm → Int32 → Bool × ro_Mm} {P47 : ro_Mm → Int32 → Prop} {F219 : ro_Mm → ro_Mm} {P219 : ro_Mm → Prop} {o : Nat}
theorem lv_4 (T : pT bz z t s q) (h : SP bz z t s q o (fun A => F46 A (nI 4 + 1) (nI o)) (fun A => P46 A (nI 4 + 1) (nI o)) F219 P219) :
    SP bz z t s q o (fun A => (xfb_46 F46 F47 A (nI 4) (nI o), xmb_46 F46 F47 A (nI 4) (nI o))) (fun A => xpb_46 F46 P46 F47 P47 A (nI 4) (nI o)) (xm_218 F219) (xp_218 F219 P219) := by
  refine lv_all (G := xg_218_4 F219) (Q := xq_218_4 F219 P219) T (by decide) (by decide) h (fun n B c => ?_) (fun n B v c hp hk hj => ?_) (fun n B v c hp hk hj => ?_)
  · rw [xg_218_4, xq_218_4, if_pos c]
    exact ⟨rfl, fun _ => trivial, fun y => absurd c y⟩
  · have n1 := ops_n (c := 42) hk hj (by decide) (by decide) rfl
    have n2 := ops_n (c := 47) hk hj (by decide) (by decide) rfl
    have n3 := ops_n (c := 37) hk hj (by decide) (by decide) rfl
    rw [xg_218_4, xq_218_4, if_neg c, if_neg n1, if_neg n2, if_neg n3]
    exact ⟨rfl, fun y => absurd y c, fun _ => ⟨hp, fun y => absurd y n1, fun _ => ⟨hp, fun y => absurd y n2, fun _ => ⟨hp, fun y => absurd y n3, fun _ => trivial⟩⟩⟩⟩
  · rw [xg_218_4, xq_218_4, if_neg c]
    rcases ops4 hj with rfl | rfl | rfl
    · have e := (pk_e hk (by decide) (by decide)).mpr rfl
      rw [e, if_pos rfl]
      exact ⟨rfl, fun x y w => ⟨fun y => absurd y c, fun _ => ⟨hp, fun _ => ⟨hp, x, y, w⟩, fun y => absurd rfl y⟩⟩⟩
    · have e := (pk_e hk (by decide) (by decide)).mpr rfl
      have n1 : ¬ (47 : Int32) = 42 := by decide
      rw [e, if_neg n1, if_pos rfl]
      exact ⟨rfl, fun x y w => ⟨fun y => absurd y c, fun _ => ⟨hp, fun y => absurd y n1, fun _ => ⟨hp, fun _ => ⟨hp, x, y, w⟩, fun y => absurd rfl y⟩⟩⟩⟩
    · have e := (pk_e hk (by decide) (by decide)).mpr rfl
      have n1 : ¬ (37 : Int32) = 42 := by decide
      have n2 : ¬ (37 : Int32) = 47 := by decide
      rw [e, if_neg n1, if_neg n2, if_pos rfl]
      exact ⟨rfl, fun x y w => ⟨fun y => absurd y c, fun _ => ⟨hp, fun y => absurd y n1, fun _ => ⟨hp, fun y => absurd y n2, fun _ => ⟨hp, fun _ => ⟨hp, x, y, w⟩, fun y => absurd rfl y⟩⟩⟩⟩⟩
theorem lv_3 (T : pT bz z t s q) (h : SP bz z t s q o (fun A => F46 A (nI 3 + 1) (nI o)) (fun A => P46 A (nI 3 + 1) (nI o)) (xm_218 F219) (xp_218 F219 P219)) :
    SP bz z t s q o (fun A => (xfb_46 F46 F47 A (nI 3) (nI o), xmb_46 F46 F47 A (nI 3) (nI o))) (fun A => xpb_46 F46 P46 F47 P47 A (nI 3) (nI o)) (xm_217 F219) (xp_217 F219 P219) := by
  refine lv_all (G := xg_217_4 F219) (Q := xq_217_4 F219 P219) T (by decide) (by decide) h (fun n B c => ?_) (fun n B v c hp hk hj => ?_) (fun n B v c hp hk hj => ?_)
  · rw [xg_217_4, xq_217_4, if_pos c]
    exact ⟨rfl, fun _ => trivial, fun y => absurd c y⟩
  · have n1 := ops_n (c := 43) hk hj (by decide) (by decide) rfl
    have n2 := ops_n (c := 45) hk hj (by decide) (by decide) rfl
    rw [xg_217_4, xq_217_4, if_neg c, if_neg n1, if_neg n2]
    exact ⟨rfl, fun y => absurd y c, fun _ => ⟨hp, fun y => absurd y n1, fun _ => ⟨hp, fun y => absurd y n2, fun _ => trivial⟩⟩⟩
  · rw [xg_217_4, xq_217_4, if_neg c]
    rcases ops3 hj with rfl | rfl
    · have e := (pk_e hk (by decide) (by decide)).mpr rfl
      rw [e, if_pos rfl]
      exact ⟨rfl, fun x y w => ⟨fun y => absurd y c, fun _ => ⟨hp, fun _ => ⟨hp, x, y, w⟩, fun y => absurd rfl y⟩⟩⟩
    · have e := (pk_e hk (by decide) (by decide)).mpr rfl
      have n1 : ¬ (45 : Int32) = 43 := by decide
      rw [e, if_neg n1, if_pos rfl]
      exact ⟨rfl, fun x y w => ⟨fun y => absurd y c, fun _ => ⟨hp, fun y => absurd y n1, fun _ => ⟨hp, fun _ => ⟨hp, x, y, w⟩, fun y => absurd rfl y⟩⟩⟩⟩
theorem lv_1 (T : pT bz z t s q) (h : SP bz z t s q o (fun A => F46 A (nI 1 + 1) (nI o)) (fun A => P46 A (nI 1 + 1) (nI o)) (xm_216 F219) (xp_216 F219 P219)) :
    SP bz z t s q o (fun A => (xfb_46 F46 F47 A (nI 1) (nI o), xmb_46 F46 F47 A (nI 1) (nI o))) (fun A => xpb_46 F46 P46 F47 P47 A (nI 1) (nI o)) (xm_215 F219) (xp_215 F219 P219) := by
  refine lv_all (G := xg_215_4 F219) (Q := xq_215_4 F219 P219) T (by decide) (by decide) h (fun n B c => ?_) (fun n B v c hp hk hj => ?_) (fun n B v c hp hk hj => ?_)
  · rw [xg_215_4, xq_215_4, if_pos c]
    exact ⟨rfl, fun _ => trivial, fun y => absurd c y⟩
  · have n1 := ops_n (c := 38) hk hj (by decide) (by decide) rfl
    rw [xg_215_4, xq_215_4, if_neg c, if_neg n1]
    exact ⟨rfl, fun y => absurd y c, fun _ => ⟨hp, fun y => absurd y n1, fun _ => trivial⟩⟩
  · rw [xg_215_4, xq_215_4, if_neg c]
    have e0 := ops1 hj
    subst e0
    have e := (pk_e hk (by decide) (by decide)).mpr rfl
    rw [e, if_pos rfl]
    exact ⟨rfl, fun x y w => ⟨fun y => absurd y c, fun _ => ⟨hp, fun _ => ⟨x, y, w⟩, fun y => absurd rfl y⟩⟩⟩
theorem lv_0 (T : pT bz z t s q) (h : SP bz z t s q o (fun A => F46 A (nI 0 + 1) (nI o)) (fun A => P46 A (nI 0 + 1) (nI o)) (xm_215 F219) (xp_215 F219 P219)) :
    SP bz z t s q o (fun A => (xfb_46 F46 F47 A (nI 0) (nI o), xmb_46 F46 F47 A (nI 0) (nI o))) (fun A => xpb_46 F46 P46 F47 P47 A (nI 0) (nI o)) (xm_214 F219) (xp_214 F219 P219) := by
  refine lv_all (G := xg_214_4 F219) (Q := xq_214_4 F219 P219) T (by decide) (by decide) h (fun n B c => ?_) (fun n B v c hp hk hj => ?_) (fun n B v c hp hk hj => ?_)
  · rw [xg_214_4, xq_214_4, if_pos c]
    exact ⟨rfl, fun _ => trivial, fun y => absurd c y⟩
  · have n1 := ops_n (c := 124) hk hj (by decide) (by decide) rfl
    rw [xg_214_4, xq_214_4, if_neg c, if_neg n1]
    exact ⟨rfl, fun y => absurd y c, fun _ => ⟨hp, fun y => absurd y n1, fun _ => trivial⟩⟩
  · rw [xg_214_4, xq_214_4, if_neg c]
    have e0 := ops0 hj
    subst e0
    have e := (pk_e hk (by decide) (by decide)).mpr rfl
    rw [e, if_pos rfl]
    exact ⟨rfl, fun x y w => ⟨fun y => absurd y c, fun _ => ⟨hp, fun _ => ⟨x, y, w⟩, fun y => absurd rfl y⟩⟩⟩
/-- comparing: once -/
theorem lv_216 {B : ro_Mm} {v : Int32} (c : ¬ 0 ≤ (xm_217 F219 B).2.1 163 16) (hp : xp_220 (xm_217 F219 B)) (hk : pk (xf_220 (xm_217 F219 B)) v) :
    (¬ xf_54 B (nI 2) v = true → xm_216 F219 B = xm_217 F219 B ∧ (xp_217 F219 P219 B → xp_216 F219 P219 B)) ∧
    (xf_54 B (nI 2) v = true → xm_216 F219 B = xm_222 (xm_217 F219 (nxB (xm_217 F219 B))) v 0 ∧ (xp_217 F219 P219 B → xp_217 F219 P219 (nxB (xm_217 F219 B)) → xp_222 (xm_217 F219 (nxB (xm_217 F219 B))) v 0 → xp_216 F219 P219 B)) := by
  unfold xm_216 xp_216
  rw [if_neg c]
  refine ⟨fun hj => ?_, fun hj => ?_⟩
  · have n1 := ops_n (c := 60) hk hj (by decide) (by decide) rfl
    have n2 := ops_n (c := 61) hk hj (by decide) (by decide) rfl
    have n3 := ops_n (c := 62) hk hj (by decide) (by decide) rfl
    rw [if_neg n1, if_neg n2, if_neg n3]
    exact ⟨rfl, fun x => ⟨x, hp, fun y => absurd y c, fun _ => ⟨fun y => absurd y n1, fun _ => ⟨fun y => absurd y n2, fun _ => ⟨fun y => absurd y n3, fun _ => trivial⟩⟩⟩⟩⟩
  · rcases ops2 hj with rfl | rfl | rfl
    · have e := (pk_e hk (by decide) (by decide)).mpr rfl
      rw [e, if_pos rfl]
      exact ⟨rfl, fun x y w => ⟨x, hp, fun y => absurd y c, fun _ => ⟨fun _ => ⟨y, w, trivial⟩, fun y => absurd rfl y⟩⟩⟩
    · have e := (pk_e hk (by decide) (by decide)).mpr rfl
      have n1 : ¬ (61 : Int32) = 60 := by decide
      rw [e, if_neg n1, if_pos rfl]
      exact ⟨rfl, fun x y w => ⟨x, hp, fun y => absurd y c, fun _ => ⟨fun y => absurd y n1, fun _ => ⟨fun _ => ⟨y, w, trivial⟩, fun y => absurd rfl y⟩⟩⟩⟩
    · have e := (pk_e hk (by decide) (by decide)).mpr rfl
      have n1 : ¬ (62 : Int32) = 60 := by decide
      have n2 : ¬ (62 : Int32) = 61 := by decide
      rw [e, if_neg n1, if_neg n2, if_pos rfl]
      exact ⟨rfl, fun x y w => ⟨x, hp, fun y => absurd y c, fun _ => ⟨fun y => absurd y n1, fun _ => ⟨fun y => absurd y n2, fun _ => ⟨fun _ => ⟨y, w, trivial⟩, fun y => absurd rfl y⟩⟩⟩⟩⟩
theorem lv_2 (T : pT bz z t s q) (h : SP bz z t s q o (fun A => F46 A (nI 2 + 1) (nI o)) (fun A => P46 A (nI 2 + 1) (nI o)) (xm_217 F219) (xp_217 F219 P219)) :
    SP bz z t s q o (fun A => (xfb_46 F46 F47 A (nI 2) (nI o), xmb_46 F46 F47 A (nI 2) (nI o))) (fun A => xpb_46 F46 P46 F47 P47 A (nI 2) (nI o)) (xm_216 F219) (xp_216 F219 P219) := by
  intro A B a k hA hB hka ha
  have hz := T.hz
  obtain ⟨s1, s2, s3, s4, a', s5, s6, s7⟩ := h A B a k hA hB hka ha
  have c4 : nI 2 ≤ 4 := by decide
  have c2 : nI 2 = 2 := rfl
  obtain ⟨m, em⟩ := lp_9
  have nf : ¬ (false = true) := by decide
  have c0 : ¬ (120 : Int32) ≤ 0 := by decide
  rcases s7 with ⟨r1, r2, ws1, r3, r4, r5, r6, r7⟩ | ⟨r1, r2, r3, r4, k', r5, r6⟩
  · have r1 : (F46 A (nI 2 + 1) (nI o)).1 = true := r1
    have l1 := wf_pos r3
    have f0 : ¬ 0 ≤ (xm_217 F219 B).2.1 163 16 := by rw [r6.2.2.2.1]; decide
    have hk : pk (xf_48 (F46 A (nI 2 + 1) (nI o)).2) (pq z q a') := pk_A T r5.1 r5.2.1 r5.2.2.1 s6
    obtain ⟨hkB, hpB⟩ := pk_B T r6.1 r6.2.1 r6.2.2.1 s6
    obtain ⟨u1, u2⟩ := lv_216 (P219 := P219) f0 hpB hkB
    by_cases j : xf_54 B (nI 2) (pq z q a') = true
    · obtain ⟨v1, v2⟩ := u2 j
      obtain ⟨o1, o2, o3, o4, o5, o6, o7, o8, o9, o10⟩ := pk_op j
      have az : a' < z := by
        by_cases c : a' < z
        · exact c
        · unfold pq at j; rw [if_neg c] at j; exact absurd j pd_54
      have c1 : xf_54 (F46 A (nI 2 + 1) (nI o)).2 (nI 2) (xf_48 (F46 A (nI 2 + 1) (nI o)).2) = true := by rw [pk_54 hk]; exact j
      have e48 : xf_48 (F46 A (nI 2 + 1) (nI o)).2 = pq z q a' := (pk_e hk o9 o10).mpr rfl
      obtain ⟨nA, fA, kA⟩ := ps_nA r5
      obtain ⟨nB, fB, kB⟩ := ps_nB r6
      obtain ⟨t1, t2, t3, t4, a2, t5, t6, t7⟩ := h _ _ (a' + 1) (k + ws1.length) nA nB (by omega) (by omega)
      have plN : pl bz (F46 A (nI 2 + 1) (nI o)).2 (nxA (F46 A (nI 2 + 1) (nI o)).2) (xm_217 F219 B) (nxB (xm_217 F219 B)) (k + ws1.length) := fun j _ => ⟨kA j, kB _ _ (by decide), kB _ _ (by decide)⟩
      dsimp only
      rw [v1]
      have E1 : (F46 (nxA (F46 A (nI 2 + 1) (nI o)).2) (nI 2 + 1) (nI o)).1 = true → xfb_46 F46 F47 A (nI 2) (nI o) = true ∧ xmb_46 F46 F47 A (nI 2) (nI o) = xm_51 (F46 (nxA (F46 A (nI 2 + 1) (nI o)).2) (nI 2 + 1) (nI o)).2 (-(pq z q a')) ∧ xpb_46 F46 P46 F47 P47 A (nI 2) (nI o) := fun ok => by
        unfold xfb_46 xmb_46 xpb_46
        rw [if_pos c4, if_pos c4, if_pos r1, if_pos r1, em, xg_46_26, xq_46_26, if_neg c0, if_pos c1, if_pos ok, if_pos c2, e48]
        refine ⟨by rw [if_pos rfl], rfl, fun _ => ⟨s1, fun _ => ⟨⟨fun y => absurd y c0, fun _ => ⟨fun _ => ⟨t1, fun _ => ⟨fun _ => trivial, fun y => absurd c2 y⟩, fun y => absurd ok y⟩, fun y => absurd j y⟩⟩, trivial⟩, fun y => absurd r1 y⟩, fun y => absurd c4 y⟩
      have E2 : ¬ (F46 (nxA (F46 A (nI 2 + 1) (nI o)).2) (nI 2 + 1) (nI o)).1 = true → xfb_46 F46 F47 A (nI 2) (nI o) = false ∧ xmb_46 F46 F47 A (nI 2) (nI o) = (F46 (nxA (F46 A (nI 2 + 1) (nI o)).2) (nI 2 + 1) (nI o)).2 ∧ xpb_46 F46 P46 F47 P47 A (nI 2) (nI o) := fun ok => by
        unfold xfb_46 xmb_46 xpb_46
        rw [if_pos c4, if_pos c4, if_pos r1, if_pos r1, em, xg_46_26, xq_46_26, if_neg c0, if_pos c1, if_neg ok]
        refine ⟨by rw [if_pos rfl], rfl, fun _ => ⟨s1, fun _ => ⟨⟨fun y => absurd y c0, fun _ => ⟨fun _ => ⟨t1, fun y => absurd y ok, fun _ => trivial⟩, fun y => absurd c1 y⟩⟩, trivial⟩, fun y => absurd r1 y⟩, fun y => absurd c4 y⟩
      rcases t7 with ⟨x1, x2, ws2, x3, x4, x5, x6, x7⟩ | ⟨x1, x2, x3, x4, k', x5, x6⟩
      · obtain ⟨e1, e2, e3⟩ := E1 x1
        have e9 : k + ws1.length + ws2.length = k + (ws1 ++ ws2).length := by rw [List.length_append]; omega
        rw [e9] at x5 x6
        have l12 : (ws1 ++ ws2).length = ws1.length + ws2.length := List.length_append
        have l2 := wf_pos x3
        obtain ⟨y1, y2, y3, y4, y5, y6, y7⟩ := ps_add (w := -(pq z q a')) (v1 := pq z q a') (v2 := 0) x5 x6 (by omega) (o3.trans o1.symm) o2.symm
        have l4 : (ws1 ++ ws2 ++ [-(pq z q a')]).length = (ws1 ++ ws2).length + 1 := List.length_append
        have e4 : k + (ws1 ++ ws2).length + 1 = k + (ws1 ++ ws2 ++ [-(pq z q a')]).length := by rw [l4]; omega
        rw [e4] at y1 y2
        have w1 := pw_app (pw_l r7 (pl_t plN x2 (Nat.le_refl _)) (Nat.le_refl _)) x7
        have w2 := pw_app (pw_l w1 y5 (Nat.le_refl _)) y6
        refine ⟨e3, v2 s2 t2 y7, ?_⟩
        rw [e1, e2]
        exact ⟨pf_A_t s3 (pf_A_t fA (pf_A_t t3 y3)), pf_B_t s4 (pf_B_t fB (pf_B_t t4 y4)), a2, by omega, t6, Or.inl ⟨rfl, pl_t r2 (pl_t (pl_t plN x2 (Nat.le_refl _)) y5 (by omega)) (by omega), ws1 ++ ws2 ++ [-(pq z q a')], wf_two r3 x3 o4 o5 o6 o7 o8, by omega, y1, y2, w2⟩⟩
      · obtain ⟨y1, y2, y3, y4⟩ := pf_222 x5 (by omega) (v1 := pq z q a') (v2 := 0)
        by_cases ok : (F46 (nxA (F46 A (nI 2 + 1) (nI o)).2) (nI 2 + 1) (nI o)).1 = true
        · obtain ⟨e1, e2, e3⟩ := E1 ok
          have hd : pd (pq z q a2) = true := by
            rcases x1 with r | r
            · have r : (F46 (nxA (F46 A (nI 2 + 1) (nI o)).2) (nI 2 + 1) (nI o)).1 = false := r
              rw [ok] at r; exact absurd r (by decide)
            · exact r
          obtain ⟨p1, p2⟩ := pf_51 (A := (F46 (nxA (F46 A (nI 2 + 1) (nI o)).2) (nI 2 + 1) (nI o)).2) (w := -(pq z q a'))
          refine ⟨e3, v2 s2 t2 y2, ?_⟩
          rw [e1, e2]
          exact ⟨pf_A_t s3 (pf_A_t fA (pf_A_t t3 p1)), pf_B_t s4 (pf_B_t fB (pf_B_t t4 y1)), a2, by omega, t6, Or.inr ⟨Or.inr hd, p2.trans x2, (y4 16 (by decide)).trans x3, (y4 15 (by decide)).trans x4, k' + 1, y3, by omega⟩⟩
        · obtain ⟨e1, e2, e3⟩ := E2 ok
          refine ⟨e3, v2 s2 t2 y2, ?_⟩
          rw [e1, e2]
          exact ⟨pf_A_t s3 (pf_A_t fA t3), pf_B_t s4 (pf_B_t fB (pf_B_t t4 y1)), a2, by omega, t6, Or.inr ⟨Or.inl rfl, x2, (y4 16 (by decide)).trans x3, (y4 15 (by decide)).trans x4, k' + 1, y3, by omega⟩⟩
    · obtain ⟨v1, v2⟩ := u1 j
      have c1 : ¬ xf_54 (F46 A (nI 2 + 1) (nI o)).2 (nI 2) (xf_48 (F46 A (nI 2 + 1) (nI o)).2) = true := by rw [pk_54 hk]; exact j
      dsimp only
      rw [v1]
      refine ⟨?_, v2 s2, ?_⟩
      · unfold xpb_46
        refine ⟨fun _ => ⟨s1, fun _ => ⟨?_, trivial⟩, fun y => absurd r1 y⟩, fun y => absurd c4 y⟩
        rw [em, xq_46_26]
        exact ⟨fun y => absurd y c0, fun _ => ⟨fun y => absurd y c1, fun _ => trivial⟩⟩
      · unfold xfb_46 xmb_46
        rw [if_pos c4, if_pos c4, if_pos r1, if_pos r1, em, xg_46_26, if_neg c0, if_neg c1, if_neg nf]
        exact ⟨s3, s4, a', s5, s6, Or.inl ⟨rfl, r2, ws1, r3, r4, r5, r6, r7⟩⟩
  · have f0 : 0 ≤ (xm_217 F219 B).2.1 163 16 := by rw [r3]; exact nI_pos' (by omega)
    have e216 : xm_216 F219 B = xm_217 F219 B := by unfold xm_216; rw [if_pos f0]
    obtain ⟨_, hpB⟩ := pk_B T (B := xm_217 F219 B) (by rw [s4.2.2 163 14 (by omega) (by omega)]; exact hB.1) (fun i hi => by rw [s4.2.2 173 i (by omega) (by omega)]; exact hB.2.1 i hi) r4 s6
    have p216 : xp_216 F219 P219 B := by unfold xp_216; exact ⟨s2, hpB, fun _ => trivial, fun y => absurd f0 y⟩
    dsimp only
    rw [e216]
    by_cases ok : (F46 A (nI 2 + 1) (nI o)).1 = true
    · have hd : pd (pq z q a') = true := by
        rcases r1 with r | r
        · have r : (F46 A (nI 2 + 1) (nI o)).1 = false := r
          rw [ok] at r; exact absurd r (by decide)
        · exact r
      obtain ⟨d1, d2⟩ := lv_dig (F46 := F46) (P46 := P46) (F47 := F47) (P47 := P47) (l := 2) (o := o) (i := 0) (n := m + 8) T hA.1 hA.2.1 s3 r2 s6 hd (by omega)
      rw [nI_0, show m + 8 + 1 = m + 9 from rfl, ← em] at d1 d2
      refine ⟨?_, p216, ?_⟩
      · unfold xpb_46
        exact ⟨fun _ => ⟨s1, fun _ => ⟨d2, trivial⟩, fun y => absurd ok y⟩, fun y => absurd c4 y⟩
      · unfold xfb_46 xmb_46
        rw [if_pos c4, if_pos c4, if_pos ok, if_pos ok, d1, if_neg nf]
        exact ⟨s3, s4, a', s5, s6, Or.inr ⟨Or.inr hd, r2, r3, r4, k', r5, r6⟩⟩
    · refine ⟨?_, p216, ?_⟩
      · unfold xpb_46
        exact ⟨fun _ => ⟨s1, fun y => absurd y ok, fun _ => trivial⟩, fun y => absurd c4 y⟩
      · unfold xfb_46 xmb_46
        rw [if_pos c4, if_pos c4, if_neg ok, if_neg ok]
        exact ⟨s3, s4, a', s5, s6, Or.inr ⟨Or.inl rfl, r2, r3, r4, k', r5, r6⟩⟩
end LV3
/-- a whole value from an operand's -/
theorem lv_top {bz z : Nat} {t s q : Nat → Int32} (T : pT bz z t s q) {o n m : Nat} (h : SP bz z t s q o (fun A => (xr_par n).2 A (nI o)) (fun A => (xpr_par n).2 A (nI o)) (xr_opd m) (xpr_opd m)) :
    SP bz z t s q o (fun A => (xr_par (n + 6)).1 A (nI 0) (nI o)) (fun A => (xpr_par (n + 6)).1 A (nI 0) (nI o)) (xm_214 (xr_opd m)) (xp_214 (xr_opd m) (xpr_opd m)) := by
  have h5 : SP bz z t s q o (fun A => (xr_par (n + 1)).1 A (nI 4 + 1) (nI o)) (fun A => (xpr_par (n + 1)).1 A (nI 4 + 1) (nI o)) (xr_opd m) (xpr_opd m) := by
    intro A B a k hA hB hka ha
    obtain ⟨s1, s2, s3⟩ := h A B a k hA hB hka ha
    have c4 : ¬ nI 4 + 1 ≤ 4 := by decide
    refine ⟨?_, s2, ?_⟩
    · show xpb_46 (xr_par n).1 (xpr_par n).1 (xr_par n).2 (xpr_par n).2 A (nI 4 + 1) (nI o)
      unfold xpb_46
      exact ⟨fun y => absurd y c4, fun _ => ⟨s1, trivial⟩⟩
    · show po bz z t s q A B a k o (xfb_46 (xr_par n).1 (xr_par n).2 A (nI 4 + 1) (nI o), xmb_46 (xr_par n).1 (xr_par n).2 A (nI 4 + 1) (nI o)) (xr_opd m B)
      unfold xfb_46 xmb_46
      rw [if_neg c4, if_neg c4]
      exact s3
  exact lv_0 (F46 := (xr_par (n + 5)).1) (F47 := (xr_par (n + 5)).2) (P47 := (xpr_par (n + 5)).2) T (lv_1 (F46 := (xr_par (n + 4)).1) (F47 := (xr_par (n + 4)).2) (P47 := (xpr_par (n + 4)).2) T (lv_2 (F46 := (xr_par (n + 3)).1) (F47 := (xr_par (n + 3)).2) (P47 := (xpr_par (n + 3)).2) T (lv_3 (F46 := (xr_par (n + 2)).1) (F47 := (xr_par (n + 2)).2) (P47 := (xpr_par (n + 2)).2) T (lv_4 (F46 := (xr_par (n + 1)).1) (F47 := (xr_par (n + 1)).2) (P47 := (xpr_par (n + 1)).2) T h5))))
end LAW3

