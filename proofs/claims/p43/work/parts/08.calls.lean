/-! calls: the small machine's call, by the contract of the method called -/
theorem ro_linkL {own x a : Nat} (h : ro_LL.any (fun e => e.1 == own && e.2.1 == x && e.2.2.1 == a) = true) : Cond.methodLink (ro_Rn own) x (ro_m a).1 ∈ ro_G := by
  obtain ⟨e, -, hp, hq⟩ := ro_any ro_chkL_ok h
  simp only [Bool.and_eq_true, beq_iff_eq] at hp
  obtain ⟨⟨rfl, rfl⟩, rfl⟩ := hp
  unfold ro_chkL at hq
  simp only [Bool.and_eq_true] at hq
  exact ro_at_mem hq.1
theorem ro_linkO {own x a : Nat} (h : ro_okL own (.invokespecial x) a 2 = true) : Cond.methodLink (ro_Rn own) x Lib.objectInit ∈ ro_G := by
  simp only [ro_okL] at h
  obtain ⟨e, -, hp, hq⟩ := ro_any ro_chkO_ok h
  simp only [Bool.and_eq_true, beq_iff_eq] at hp
  obtain ⟨rfl, rfl⟩ := hp
  exact ro_at_mem hq
theorem ro_linkX {own x a : Nat} (h : ro_XL.any (fun e => e.1 == own && e.2.1 == x && e.2.2.1 == a) = true) : Cond.methodLink (ro_Rn own) x (ro_Xn a) ∈ ro_G := by
  obtain ⟨e, -, hp, hq⟩ := ro_any ro_chkX_ok h
  simp only [Bool.and_eq_true, beq_iff_eq] at hp
  obtain ⟨⟨rfl, rfl⟩, rfl⟩ := hp
  simp only [Bool.and_eq_true] at hq
  exact ro_at_mem hq.1
theorem ro_linkA {own x : Nat} (h : ro_AL.any (fun e => e.1 == own && e.2.1 == x) = true) : Cond.methodLink (ro_Rn own) x arraycopyName ∈ ro_G := by
  obtain ⟨e, -, hp, hq⟩ := ro_any ro_chkA_ok h
  simp only [Bool.and_eq_true, beq_iff_eq] at hp
  obtain ⟨rfl, rfl⟩ := hp
  exact ro_at_mem hq
/-- a constructor: by an ordinary link, or a nest mate's -/
theorem ro_linkI {own x a b : Nat} (hb2 : ¬ b = 2) (h : ro_okL own (.invokespecial x) a b = true) : ((Cond.methodLink (ro_Rn own) x (ro_m a).1 ∈ ro_G) ∨ ∃ e ∈ ro_NL, e.1 = own ∧ e.2.1 = x ∧ e.2.2.1 = a) ∧ (ro_m a).2.2.2.2.2.2 = false ∧ (ro_m a).1.name = "<init>" ∧ (ro_m a).2.2.2.1 = none := by
  match b, h with
  | 0, h =>
    simp only [ro_okL, Bool.and_eq_true, Bool.not_eq_true', beq_iff_eq, decide_eq_true_eq] at h
    exact ⟨Or.inl (ro_linkL h.1.1.1), h.1.1.2, h.1.2, h.2⟩
  | 1, h =>
    simp only [ro_okL, Bool.and_eq_true, Bool.not_eq_true', beq_iff_eq, decide_eq_true_eq] at h
    obtain ⟨e, he, hp⟩ := List.any_eq_true.mp h.1.1.1
    simp only [Bool.and_eq_true, beq_iff_eq] at hp
    exact ⟨Or.inr ⟨e, he, hp.1.1, hp.1.2, hp.2⟩, h.1.1.2, h.1.2, h.2⟩
  | 2, _ => exact absurd rfl hb2
  | n + 3, h => simp only [ro_okL] at h; cases h
theorem ro_specE {cl : Nat → List Value → ro_Mm → ro_Po → Prop} {X : ro_Sx} {mx : Nat × Nat} {own nL : Nat} {ini : Bool} {pc : Nat} {lv : ro_Lv} {st : List Value} {M : ro_Mm} {cs : Nat × Nat} {k : ro_K} {x a b : Nat} (hb2 : ¬ b = 2) (h : ro_step cl X mx own nL ini pc lv st M cs k (.invokespecial x) a b) : ro_cv none cl mx a pc lv st M cs k := by
  match b, h with
  | 0, h => exact h
  | 1, h => exact h
  | 2, _ => exact absurd rfl hb2
  | n + 3, h => exact h
theorem ro_own13 : ∀ a, a < 206 → (ro_m a).2.2.2.2.2.2 = false → (ro_m a).2.2.2.2.1 < 12 := by decide +kernel
theorem ro_noini : ∀ a, a < 206 → 12 ≤ a ∧ a ≠ 193 → (ro_m a).1.name ≠ "<init>" := by decide +kernel
theorem ro_codeG {n : MethodName} {b : ByteArray} {k : Nat} {r : Option FieldType} (h : Cond.code n b k r ∈ lw_tbl) : Cond.code n b k r ∈ ro_G :=
  List.mem_filter.mpr ⟨h, by first | rfl | simp [goodWord, Cond.onTables, Cond.keeps, Cond.steady]⟩
theorem ro_ocm : Cond.code Lib.objectInit ⟨#[0xb1]⟩ 1 none ∈ lw_tbl := ro_wd_mem ro_oc
theorem ro_drop {st : List Value} {n : Nat} {x : Value} {r : List Value} (g : ro_Gd) (h : st.drop n = x :: r) : st.map (ro_tv g) = ((st.take n).reverse.map (ro_tv g)).reverse ++ ro_tv g x :: r.map (ro_tv g) := by
  have e : st = st.take n ++ x :: r := by rw [← h, List.take_append_drop]
  calc st.map (ro_tv g) = (st.take n ++ x :: r).map (ro_tv g) := by rw [← e]
    _ = _ := by rw [List.map_append, List.map_reverse, List.reverse_reverse, List.map_cons]
theorem ro_drop2 {st : List Value} {n : Nat} (g : ro_Gd) : st.map (ro_tv g) = ((st.take n).reverse.map (ro_tv g)).reverse ++ (st.drop n).map (ro_tv g) := by
  calc st.map (ro_tv g) = (st.take n ++ st.drop n).map (ro_tv g) := by rw [List.take_append_drop]
    _ = _ := by rw [List.map_append, List.map_reverse, List.reverse_reverse]
section ROK
variable {p : Program} {l : Launch} {e : Env} {R : Room} {s : State} {m : MethodId} {args : Array Value} {below : List Frame} {meth : Method} {c : Code} {H : Heap} {locs : List Loc} {Q : State → Prop}
variable {cc : ByteArray} {pc : Nat} {ls : Array Slot} {g : ro_Gd} {M : ro_Mm} {Ts : List Cond} {own nL d x a : Nat} {mx cs : Nat × Nat} {cl : Nat → List Value → ro_Mm → ro_Po → Prop} {st r : List Value} {k : ro_K} {lv : ro_Lv}
theorem ro_goodT (hts : ∀ w ∈ Ts, w.before args s = true) (hG : ∀ w ∈ ro_G, w ∈ Ts) {y : Nat} (hy : y < 206) : GoodIn Ts (ro_cd y :: ro_G) := by
  intro w hw
  have h1 : w ∈ ro_G := by
    rcases List.mem_cons.mp hw with rfl | h
    · exact ro_cd_in hy
    · exact h
  exact ⟨hG _ h1, ro_good h1⟩
theorem ro_pcU (hK : va_K g.1 ro_cl (ro_tys g) s) (hT : ro_T g s s.heap) (hN : ro_N s) (hbs : g.2.2.2.1 ≤ s.heap.size) (hH : ro_H g M H) (hS : va_S (ro_A g) s.heap H locs) {as : List Value} {v : Array Value} (hv : v = (as.map (ro_tv g)).toArray) : ∀ U : State, U.heap = H → s.WarmedH U.vm → ro_Pc g as M v U := by
  intro U hU hW
  refine ⟨hv, by rw [hU]; exact hH, va_K.moved hW.alike hK, ?_, hN.warm hW⟩
  rw [hU]
  exact hT.moved hW.alike (fun q h1 h2 => hS.2.1 q h1 h2) hbs
set_option maxHeartbeats 4000000 in
theorem ro_virtW (hx : p.tables.exec = Jvm.exec) (hb : c.code = cc) (hml : c.maxLocals = nL) (hown : s.vm.findClass (ro_Rn own) = some m.cls) (hts : ∀ w ∈ Ts, w.before args s = true) (hG : ∀ w ∈ ro_G, w ∈ Ts) (hK : va_K g.1 ro_cl (ro_tys g) s) (hT : ro_T g s s.heap) (hN : ro_N s) (hbs : g.2.2.2.1 ≤ s.heap.size) (hf : d + 1 ≤ R.frames) (hlo : 39 * (d + 1) ≤ R.locals) (hmx : mx.1 = R.cells ∧ mx.2 = R.slots)
    (hM : ∀ y as M post, y < 206 → cl y as M post → Met l (ro_m y).1 (ro_cd y :: ro_G) (ro_rm d y) (ro_Pc g as M) (ro_Qc g post) (ro_lim y).1 (ro_lim y).2 (ro_A g)) (hy : a < 206) (hlk : Cond.methodLink (ro_Rn own) x (ro_m a).1 ∈ ro_G) (hst : (ro_m a).2.2.2.2.2.2 = false) (hni : (ro_m a).1.name ≠ "<init>")
    {c0 : Nat} (hlen : (ro_m a).2.2.2.2.2.1 ≤ st.length) (hdrop : st.drop (ro_m a).2.2.2.2.2.1 = .ref c0 :: r) (h4 : 4 ≤ c0) (hk0 : (ro_kd M c0).1 = (ro_m a).2.2.2.2.1) (hroom : ro_cat r ≤ 8) (hc1 : cs.1 + (ro_lim a).1 ≤ mx.1) (hc2 : cs.2 + (ro_lim a).2 ≤ mx.2) {post : ro_Po} (h : cl a (.ref c0 :: (st.take (ro_m a).2.2.2.2.2.1).reverse) M post)
    (hdg : decode cc pc = .ok (.invokevirtual x, 3)) (hH : ro_H g M H) (hS : va_S (ro_A g) s.heap H locs) (hl : lv_has ls nL (ro_tl g lv))
    (kk : ∀ (v : Option Value) (M' : ro_Mm) (H1 : Heap) (locs1 : List Loc), post v M' → ro_H g M' H1 → va_S (ro_A g) s.heap H1 locs1 → W p l e R s m args below meth c H1 locs1 (cs.1 + (ro_lim a).1) (cs.2 + (ro_lim a).2) Q (F0 m (pc + 3) ls ((v.toList ++ r).map (ro_tv g)))) : W p l e R s m args below meth c H locs cs.1 cs.2 Q (F0 m pc ls (st.map (ro_tv g))) := by
  obtain ⟨-, t2, t3, t4, t5, t6, t7, t8, -, t10⟩ := ro_meth hy
  have hcl13 : (ro_m a).2.2.2.2.1 < 12 := ro_own13 a hy hst
  have hlq : (ro_m a).2.2.2.2.1 < ro_cl.length := by rw [ro_len_cl]; exact hcl13
  have hq : ro_cl[(ro_m a).2.2.2.2.1]? = some ro_cl[(ro_m a).2.2.2.2.1] := List.getElem?_eq_getElem hlq
  have hcls : (ro_m a).1.cls = (ro_cl[(ro_m a).2.2.2.2.1]).1 := t5.trans (ro_clT hq).2.2.2
  have hlt := ro_kd_lt hk0 (by omega)
  have he : (ro_ws g M)[c0 - 4]? = some (ro_ad g c0, .inr ((ro_m a).2.2.2.2.1, ro_fvs g M (ro_m a).2.2.2.2.1 c0)) := by rw [ro_ws_get g h4 hlt, ro_ent_obj hk0 hcl13]
  have hrec := va_recv hK hH.1 hq he
  rw [← hcls] at hrec
  have hgT := ro_goodT hts hG hy
  have hgV : GoodIn Ts (wsV (ro_Rn own) x (ro_m a).1.cls (ro_m a).1 (ro_cd a :: ro_G)) := by
    intro w hw
    rcases List.mem_append.mp hw with h1 | h1
    · have h2 : w ∈ ro_G := by
        simp only [List.mem_cons, List.not_mem_nil, or_false] at h1
        rcases h1 with rfl | rfl | rfl | rfl
        · exact hlk
        · exact t2 hst
        · exact t3 hst hni
        · exact t4
      exact ⟨hG _ h2, ro_good h2⟩
    · exact hgT w h1
  rw [ro_drop g hdrop]
  refine ro_back (a := (Value.ref (ro_ad g c0) :: (st.take (ro_m a).2.2.2.2.2.1).reverse.map (ro_tv g)).toArray) (g := g) (post := post) (va_runV (As := (st.take (ro_m a).2.2.2.2.2.1).reverse.map (ro_tv g)) (rest := r.map (ro_tv g)) ⟨hx, hb, hml, hown, hts⟩ (hM a _ M post hy h)
    (cwV (ro_m a).2.2.2.2.2.1 hts hgV rfl rfl rfl ⟨rfl, t7, t8, t6⟩ ⟨by show d + 1 ≤ _; exact hf, by show 8 + ((ro_m a).2.2.1 + 11) + 39 * d ≤ _; omega⟩) ⟨ro_blind, hrec, ro_pcU hK hT hN hbs hH hS rfl⟩ rfl (by rw [List.length_map, List.length_reverse, List.length_take]; omega) hl.1 rfl (lv_room (by rw [ro_cat_tv]; exact hroom)) hdg ⟨by rw [← hmx.1]; exact hc1, by rw [← hmx.2]; exact hc2⟩) hS (fun v M' H1 locs1 hp hH1 hS1 => ?_)
  have := kk v M' H1 locs1 hp hH1 hS1
  rw [List.map_append] at this
  cases v <;> exact this
set_option maxHeartbeats 4000000 in
theorem ro_statW (hx : p.tables.exec = Jvm.exec) (hb : c.code = cc) (hml : c.maxLocals = nL) (hown : s.vm.findClass (ro_Rn own) = some m.cls) (hts : ∀ w ∈ Ts, w.before args s = true) (hG : ∀ w ∈ ro_G, w ∈ Ts) (hK : va_K g.1 ro_cl (ro_tys g) s) (hT : ro_T g s s.heap) (hN : ro_N s) (hbs : g.2.2.2.1 ≤ s.heap.size) (hf : d + 1 ≤ R.frames) (hlo : 39 * (d + 1) ≤ R.locals) (hmx : mx.1 = R.cells ∧ mx.2 = R.slots)
    (hM : ∀ y as M post, y < 206 → cl y as M post → Met l (ro_m y).1 (ro_cd y :: ro_G) (ro_rm d y) (ro_Pc g as M) (ro_Qc g post) (ro_lim y).1 (ro_lim y).2 (ro_A g)) (hy : a < 206) (hlk : Cond.methodLink (ro_Rn own) x (ro_m a).1 ∈ ro_G) (hst : (ro_m a).2.2.2.2.2.2 = true)
    (hlen : (ro_m a).2.2.2.2.2.1 ≤ st.length) (hroom : ro_cat (st.drop (ro_m a).2.2.2.2.2.1) ≤ 8) (hc1 : cs.1 + (ro_lim a).1 ≤ mx.1) (hc2 : cs.2 + (ro_lim a).2 ≤ mx.2) {post : ro_Po} (h : cl a (st.take (ro_m a).2.2.2.2.2.1).reverse M post)
    (hdg : decode cc pc = .ok (.invokestatic x, 3)) (hH : ro_H g M H) (hS : va_S (ro_A g) s.heap H locs) (hl : lv_has ls nL (ro_tl g lv))
    (kk : ∀ (v : Option Value) (M' : ro_Mm) (H1 : Heap) (locs1 : List Loc), post v M' → ro_H g M' H1 → va_S (ro_A g) s.heap H1 locs1 → W p l e R s m args below meth c H1 locs1 (cs.1 + (ro_lim a).1) (cs.2 + (ro_lim a).2) Q (F0 m (pc + 3) ls ((v.toList ++ st.drop (ro_m a).2.2.2.2.2.1).map (ro_tv g)))) : W p l e R s m args below meth c H locs cs.1 cs.2 Q (F0 m pc ls (st.map (ro_tv g))) := by
  obtain ⟨t1, -, -, t4, t5, t6, t7, t8, -, t10⟩ := ro_meth hy
  have hgT := ro_goodT hts hG hy
  have hgV : GoodIn Ts (va_wsS (ro_Rn own) x (ro_m a).1 (ro_cd a :: ro_G)) := by
    intro w hw
    rcases List.mem_append.mp hw with h1 | h1
    · have h2 : w ∈ ro_G := by
        simp only [List.mem_cons, List.not_mem_nil, or_false] at h1
        rcases h1 with rfl | rfl | rfl
        · exact hlk
        · exact t1 hst
        · exact t4
      exact ⟨hG _ h2, ro_good h2⟩
    · exact hgT w h1
  rw [ro_drop2 (n := (ro_m a).2.2.2.2.2.1) g]
  refine ro_back (a := ((st.take (ro_m a).2.2.2.2.2.1).reverse.map (ro_tv g)).toArray) (g := g) (post := post) (va_runS (As := (st.take (ro_m a).2.2.2.2.2.1).reverse.map (ro_tv g)) (rest := (st.drop (ro_m a).2.2.2.2.2.1).map (ro_tv g)) ⟨hx, hb, hml, hown, hts⟩ (hM a _ M post hy h)
    (va_cwS (ro_m a).2.2.2.2.2.1 hts hgV rfl rfl rfl ⟨t7, t8, t6⟩ ⟨by show d + 1 ≤ _; exact hf, by show 8 + ((ro_m a).2.2.1 + 11) + 39 * d ≤ _; omega⟩) ⟨ro_blind, ro_pcU hK hT hN hbs hH hS rfl⟩ rfl (by rw [List.length_map, List.length_reverse, List.length_take]; omega) hl.1 rfl (lv_room (by rw [ro_cat_tv]; exact hroom)) hdg ⟨by rw [← hmx.1]; exact hc1, by rw [← hmx.2]; exact hc2⟩) hS (fun v M' H1 locs1 hp hH1 hS1 => ?_)
  have := kk v M' H1 locs1 hp hH1 hS1
  rw [List.map_append] at this
  cases v <;> exact this
set_option maxHeartbeats 4000000 in
theorem ro_specW (hx : p.tables.exec = Jvm.exec) (hb : c.code = cc) (hml : c.maxLocals = nL) (hown : s.vm.findClass (ro_Rn own) = some m.cls) (hts : ∀ w ∈ Ts, w.before args s = true) (hG : ∀ w ∈ ro_G, w ∈ Ts) (hK : va_K g.1 ro_cl (ro_tys g) s) (hT : ro_T g s s.heap) (hN : ro_N s) (hbs : g.2.2.2.1 ≤ s.heap.size) (hf : d + 1 ≤ R.frames) (hlo : 39 * (d + 1) ≤ R.locals) (hmx : mx.1 = R.cells ∧ mx.2 = R.slots)
    (hM : ∀ y as M post, y < 206 → cl y as M post → Met l (ro_m y).1 (ro_cd y :: ro_G) (ro_rm d y) (ro_Pc g as M) (ro_Qc g post) (ro_lim y).1 (ro_lim y).2 (ro_A g)) (hy : a < 206)
    (hlk : ((Cond.methodLink (ro_Rn own) x (ro_m a).1 ∈ ro_G) ∨ ∃ e ∈ ro_NL, e.1 = own ∧ e.2.1 = x ∧ e.2.2.1 = a) ∧ (ro_m a).2.2.2.2.2.2 = false ∧ (ro_m a).1.name = "<init>" ∧ (ro_m a).2.2.2.1 = none)
    {c0 : Nat} (hlen : (ro_m a).2.2.2.2.2.1 ≤ st.length) (hdrop : st.drop (ro_m a).2.2.2.2.2.1 = .ref c0 :: r) (hroom : ro_cat r ≤ 8) (hc1 : cs.1 + (ro_lim a).1 ≤ mx.1) (hc2 : cs.2 + (ro_lim a).2 ≤ mx.2) {post : ro_Po} (h : cl a (.ref c0 :: (st.take (ro_m a).2.2.2.2.2.1).reverse) M post)
    (hdg : decode cc pc = .ok (.invokespecial x, 3)) (hH : ro_H g M H) (hS : va_S (ro_A g) s.heap H locs) (hl : lv_has ls nL (ro_tl g lv))
    (kk : ∀ (v : Option Value) (M' : ro_Mm) (H1 : Heap) (locs1 : List Loc), post v M' → ro_H g M' H1 → va_S (ro_A g) s.heap H1 locs1 → W p l e R s m args below meth c H1 locs1 (cs.1 + (ro_lim a).1) (cs.2 + (ro_lim a).2) Q (F0 m (pc + 3) ls ((v.toList ++ r).map (ro_tv g)))) : W p l e R s m args below meth c H locs cs.1 cs.2 Q (F0 m pc ls (st.map (ro_tv g))) := by
  obtain ⟨-, t2, -, t4, t5, t6, t7, t8, -, t10⟩ := ro_meth hy
  obtain ⟨hlk, hst, hni, hno⟩ := hlk
  have hgT := ro_goodT hts hG hy
  have hcdn : ro_cd a = Cond.code (ro_m a).1 (ro_m a).2.1 (ro_m a).2.2.1 none := by unfold ro_cd; rw [hno]
  have hrun : va_Run p l e R s m args below meth c H locs cs.1 cs.2 (ro_lim a).1 (ro_lim a).2 (F0 m pc ls (((st.take (ro_m a).2.2.2.2.2.1).reverse.map (ro_tv g)).reverse ++ ro_tv g (.ref c0) :: r.map (ro_tv g))) (r.map (ro_tv g)) (ro_Qc g post (Value.ref (ro_ad g c0) :: (st.take (ro_m a).2.2.2.2.2.1).reverse.map (ro_tv g)).toArray) (ro_A g) := by
    rcases hlk with hlk | ⟨e9, he9, rfl, rfl, rfl⟩
    · exact va_runI (As := (st.take (ro_m a).2.2.2.2.2.1).reverse.map (ro_tv g)) (rest := r.map (ro_tv g)) ⟨hx, hb, hml, hown, hts⟩ (hM a _ M post hy h)
        (cwI (ro_m a).2.2.2.2.2.1 hts hgT (by rw [hcdn]) rfl rfl (hts _ (hG _ t4)) (hts _ (hG _ hlk)) (hts _ (hG _ (t2 hst))) hni ⟨t7, t8, t6⟩ ⟨by show d + 1 ≤ _; exact hf, by show 8 + ((ro_m a).2.2.1 + 11) + 39 * d ≤ _; omega⟩) ⟨ro_blind, ro_pcU hK hT hN hbs hH hS rfl⟩ rfl (by rw [List.length_map, List.length_reverse, List.length_take]; omega) hl.1 rfl (lv_room (by rw [ro_cat_tv]; exact hroom)) hdg ⟨by rw [← hmx.1]; exact hc1, by rw [← hmx.2]; exact hc2⟩
    · exact va_runIN (host := "RefusedOnce") (As := (st.take (ro_m e9.2.2.1).2.2.2.2.2.1).reverse.map (ro_tv g)) (rest := r.map (ro_tv g)) ⟨hx, hb, hml, hown, hts⟩ (hM e9.2.2.1 _ M post hy h)
        ⟨va_cnB (ro_m e9.2.2.1).2.2.2.2.2.1 hts hgT (by rw [hcdn]) rfl rfl (hN.1 e9 he9) (hts _ (hG _ t4)) ⟨t7, t8, t6⟩ ⟨by show d + 1 ≤ _; exact hf, by show 8 + ((ro_m e9.2.2.1).2.2.1 + 11) + 39 * d ≤ _; omega⟩, hni, hts _ (hG _ (t2 hst))⟩ ⟨ro_blind, ro_pcU hK hT hN hbs hH hS rfl⟩ rfl (by rw [List.length_map, List.length_reverse, List.length_take]; omega) hl.1 rfl (lv_room (by rw [ro_cat_tv]; exact hroom)) hdg ⟨by rw [← hmx.1]; exact hc1, by rw [← hmx.2]; exact hc2⟩
  rw [ro_drop g hdrop]
  refine ro_back (g := g) (post := post) hrun hS (fun v M' H1 locs1 hp hH1 hS1 => ?_)
  have := kk v M' H1 locs1 hp hH1 hS1
  rw [List.map_append] at this
  cases v <;> exact this
/-- what goes on, over the machine -/
def ro_kW (p : Program) (l : Launch) (e : Env) (R : Room) (s : State) (m : MethodId) (args : Array Value) (below : List Frame) (meth : Method) (c : Code) (nL : Nat) (mx : Nat × Nat) (g : ro_Gd) (Q : State → Prop) : ro_K := fun pc lv st M cs =>
  ∀ (H : Heap) (locs : List Loc) (ls : Array Slot), ro_H g M H → va_S (ro_A g) s.heap H locs → lv_has ls nL (ro_tl g lv) → (cs.1 ≤ mx.1 ∧ cs.2 ≤ mx.2) → W p l e R s m args below meth c H locs cs.1 cs.2 Q (F0 m pc ls (st.map (ro_tv g)))
theorem ro_mathW (hx : p.tables.exec = Jvm.exec) (hb : c.code = cc) (hml : c.maxLocals = nL) (hown : s.vm.findClass (ro_Rn own) = some m.cls) (hts : ∀ w ∈ Ts, w.before args s = true) (hG : ∀ w ∈ ro_G, w ∈ Ts) (hf : d + 1 ≤ R.frames) (hlo : 39 * (d + 1) ≤ R.locals) (hmx : mx.1 = R.cells ∧ mx.2 = R.slots) (hcs : cs.1 ≤ mx.1 ∧ cs.2 ≤ mx.2)
    (hlk : Cond.methodLink (ro_Rn own) x (ro_Xn a) ∈ ro_G) (h : ro_math a pc lv st M cs (ro_kW p l e R s m args below meth c nL mx g Q)) (hdg : decode cc pc = .ok (.invokestatic x, 3)) (hH : ro_H g M H) (hS : va_S (ro_A g) s.heap H locs) (hl : lv_has ls nL (ro_tl g lv)) : W p l e R s m args below meth c H locs cs.1 cs.2 Q (F0 m pc ls (st.map (ro_tv g))) := by
  have hm := hml.trans hl.1.symm
  have c1 : cs.1 ≤ R.cells := by rw [← hmx.1]; exact hcs.1
  have c2 : cs.2 ≤ R.slots := by rw [← hmx.2]; exact hcs.2
  have room : ∀ r : List Value, ro_cat r ≤ 8 → ((r.map (ro_tv g)).map fun v => v.category).sum + 15 ≤ R.locals := fun r hr => by rw [ro_cat_tv]; omega
  have h' := h
  clear h
  unfold ro_math at h'
  match a, hlk, h' with
  | 0, hlk, h =>
    replace h := ro_pI_inv h
    obtain ⟨y, st, rfl, h⟩ := h
    replace h := ro_pI_inv h
    obtain ⟨x, st, rfl, h⟩ := h
    exact va_mmax hx hb hm hown (hts _ (hG _ hlk)) (hts _ (hG _ (ro_at_mem ro_xs0))) (hts _ (hG _ (ro_at_mem ro_xi))) (hts _ (hG _ (ro_codeG (ro_wd_mem ro_xc0)))) (by omega) (by have := room st h.1; omega) c1 c2 hdg (h.2 H locs ls hH hS hl hcs)
  | 1, hlk, h =>
    replace h := ro_pI_inv h
    obtain ⟨y, st, rfl, h⟩ := h
    replace h := ro_pI_inv h
    obtain ⟨x, st, rfl, h⟩ := h
    exact va_mmin hx hb hm hown (hts _ (hG _ hlk)) (hts _ (hG _ (ro_at_mem ro_xs1))) (hts _ (hG _ (ro_at_mem ro_xi))) (hts _ (hG _ (ro_codeG (ro_wd_mem ro_xc1)))) (by omega) (by have := room st h.1; omega) c1 c2 hdg (h.2 H locs ls hH hS hl hcs)
  | 2, hlk, h =>
    replace h := ro_pJ_inv h
    obtain ⟨y, st, rfl, h⟩ := h
    replace h := ro_pJ_inv h
    obtain ⟨x, st, rfl, h⟩ := h
    exact va_mmax_long hx hb hm hown (hts _ (hG _ hlk)) (hts _ (hG _ (ro_at_mem ro_xs2))) (hts _ (hG _ (ro_at_mem ro_xi))) (hts _ (hG _ (ro_codeG (ro_wd_mem ro_xc2)))) (by omega) (room st h.1) c1 c2 hdg (h.2 H locs ls hH hS hl hcs)
  | _ + 3, _, h => exact h.elim
theorem ro_nn (z : Int32) (hz : ¬ z < 0) : z.toInt = (z.toNatClampNeg : Int) := by
  have hz0 : (0 : Int) ≤ z.toInt := by
    have := Int32.not_lt.mp hz
    simpa using Int32.le_iff_toInt_le.mp this
  show z.toInt = ((z.toInt.toNat : Nat) : Int)
  omega
/-- arraycopy between two rows of one plain type -/
theorem ro_copyW {α : Type} {mk : α → Value} {e0 e1 : va_E} (hx : p.tables.exec = Jvm.exec) (hb : c.code = cc) (hml : c.maxLocals = ls.size) (hown : s.vm.findClass (ro_Rn own) = some m.cls) (hts : ∀ w ∈ Ts, w.before args s = true) (hG : ∀ w ∈ ro_G, w ∈ Ts) (hK : va_K g.1 ro_cl (ro_tys g) s) {t0 : Nat} {cA : ClassId} {ty : FieldType} (ht0 : (ro_tys g)[t0]? = some (cA, ty)) (hprim : refKind ty = false) (hmk : ∀ z q, mk z ≠ .ref q)
    {c0 c1 n0 n1 : Nat} {f0 f1 : Nat → α} {M' : ro_Mm} (h40 : 4 ≤ c0) (h41 : 4 ≤ c1) (hl1 : c1 - 4 < M.1.length) (hc0 : H[ro_ad g c0]? = some (arrV cA n0 (fun j => mk (f0 j)))) (hc1 : H[ro_ad g c1]? = some (arrV cA n1 (fun j => mk (f1 j))))
    {sp dp n : Int32} (h1 : ¬ sp < 0) (h2 : ¬ dp < 0) (h3 : ¬ n < 0) (h4 : sp.toNatClampNeg + n.toNatClampNeg ≤ n0) (h5 : dp.toNatClampNeg + n.toNatClampNeg ≤ n1) (hfit : ∀ i, i < n.toNatClampNeg → fits ty (mk (f0 (sp.toNatClampNeg + i))) = true)
    (hlk : Cond.methodLink (ro_Rn own) x arraycopyName ∈ ro_G) (hf : d + 1 ≤ R.frames) (hlo : 39 * (d + 1) ≤ R.locals) (hroom : ro_cat r ≤ 8) (hdg : decode cc pc = .ok (.invokestatic x, 3)) (hH : ro_H g M H) (hS : va_S (ro_A g) s.heap H locs)
    (hs : M'.1 = M.1) (ho : ∀ c', c' ≠ c1 → ro_ent g M' c' = ro_ent g M c') (he : ∀ H1 : Heap, H1[ro_ad g c1]? = some (arrV cA n1 (fun j => mk (va_cpy f0 f1 sp.toNatClampNeg dp.toNatClampNeg n.toNatClampNeg j))) → va_at g.1 ro_cl (ro_ad g c1, ro_ent g M' c1) H1)
    (kk : ∀ (H1 : Heap) (locs1 : List Loc), ro_H g M' H1 → va_S (ro_A g) s.heap H1 locs1 → W p l e R s m args below meth c H1 locs1 cs.1 cs.2 Q (F0 m (pc + 3) ls (r.map (ro_tv g)))) : W p l e R s m args below meth c H locs cs.1 cs.2 Q (F0 m pc ls (.int n :: .int dp :: .ref (ro_ad g c1) :: .int sp :: .ref (ro_ad g c0) :: r.map (ro_tv g))) := by
  intro T hT X
  obtain ⟨-, k0, hk0, cm0, hkk0⟩ := (hK.2 t0 _ ht0).1 n0 (fun j => mk (f0 j))
  obtain ⟨vm', X', step⟩ := X.arraycopy hx hown (hts _ (hG _ hlk)) (hts _ (hG _ (ro_at_mem ro_an))) (hts _ (hG _ (ro_at_mem ro_as))) (hts _ (hG _ (ro_at_mem ro_ai))) (src := ro_ad g c0) (dst := ro_ad g c1) (cs := arrV cA n0 (fun j => mk (f0 j))) (cd := arrV cA n1 (fun j => mk (f1 j))) (srcPos := sp) (destPos := dp) (n := n) (by rw [hT]; exact hc0) (by rw [hT]; exact hc1)
    (fun _ h => by cases h) (fun _ h => by cases h) (fun h => by cases h) (fun h => by cases h) hk0 hk0 hkk0 hkk0 (by simp [hprim]) h1 h2 h3
    (by rw [ro_nn sp h1, ro_nn n h3, arrV_size]; omega)
    (by rw [ro_nn dp h2, ro_nn n h3, arrV_size]; omega)
    (fun vm₁ _ i hi => by
      have e : (arrV cA n0 (fun j => mk (f0 j))).slots.getD (sp.toNatClampNeg + i) .null = mk (f0 (sp.toNatClampNeg + i)) := by
        rw [Array.getD_eq_getD_getElem?, arrV_read _ _ (by omega)]
        rfl
      refine ⟨?_, ?_⟩
      · rw [e]
        exact hfit i hi
      · rw [e]
        have := hfit i hi
        cases hv : mk (f0 (sp.toNatClampNeg + i)) <;> first | exact trivial | exact absurd hv (hmk _ _))
    (g := F0 m pc ls (.int n :: .int dp :: .ref (ro_ad g c1) :: .int sp :: .ref (ro_ad g c0) :: r.map (ro_tv g))) rfl (by rw [hml]) (rest := r.map (ro_tv g)) rfl (by rw [hb]; exact hdg) (by omega) (by have := ro_cat_tv g r; have e9 : nativeFrameWords "java/lang/System" "arraycopy" 5 ≤ 16 := (by decide +kernel); show 2 * 0 + _ + _ ≤ _; omega)
  have e1 : copied (arrV cA n0 (fun j => mk (f0 j))) (arrV cA n1 (fun j => mk (f1 j))) sp dp n = arrV cA n1 (fun j => mk (va_cpy f0 f1 sp.toNatClampNeg dp.toNatClampNeg n.toNatClampNeg j)) := va_copied mk cA cA f0 f1 h4
  rw [e1] at X' step
  have hl : ro_ad g c1 < H.size := (Array.getElem?_eq_some_iff.mp hc1).1
  have hheap : ((T.setVm vm').setCell (ro_ad g c1) (arrV cA n1 (fun j => mk (va_cpy f0 f1 sp.toNatClampNeg dp.toNatClampNeg n.toNatClampNeg j)))).heap = H.setIfInBounds (ro_ad g c1) (arrV cA n1 (fun j => mk (va_cpy f0 f1 sp.toNatClampNeg dp.toNatClampNeg n.toNatClampNeg j))) := by rw [← hT]; rfl
  have oq : ∀ q : Nat, q ≠ ro_ad g c1 → (H.setIfInBounds (ro_ad g c1) (arrV cA n1 (fun j => mk (va_cpy f0 f1 sp.toNatClampNeg dp.toNatClampNeg n.toNatClampNeg j))))[q]? = H[q]? := fun q hq => by simp [Array.getElem?_setIfInBounds, Ne.symm hq]
  obtain ⟨g1, g2⟩ := ro_store (M' := M') (j := 0) hH hS h41 hl1 hs (he _ (by simp [Array.getElem?_setIfInBounds, hl])) ho (by simp) oq
  have hA1 : ro_A g (ro_ad g c1) := by show _ ≤ ro_ad g c1; rw [ro_ad4 g h41]; omega
  obtain ⟨t, a1, b1⟩ := kk _ _ g1 ⟨g2.1, g2.2.1, fun q hq => by
      rcases List.mem_append.mp hq with h | h
      · exact hS.2.2 q h
      · obtain ⟨z, -, hz⟩ := List.mem_map.mp h
        rw [← hz]
        exact hA1⟩ _ hheap X'
  exact ⟨t, step t a1, b1⟩
theorem ro_acW (hx : p.tables.exec = Jvm.exec) (hb : c.code = cc) (hml : c.maxLocals = nL) (hown : s.vm.findClass (ro_Rn own) = some m.cls) (hts : ∀ w ∈ Ts, w.before args s = true) (hG : ∀ w ∈ ro_G, w ∈ Ts) (hK : va_K g.1 ro_cl (ro_tys g) s) (hf : d + 1 ≤ R.frames) (hlo : 39 * (d + 1) ≤ R.locals) (hlk : Cond.methodLink (ro_Rn own) x arraycopyName ∈ ro_G)
    (h : ro_ac pc lv st M cs (ro_kW p l e R s m args below meth c nL mx g Q)) (hdg : decode cc pc = .ok (.invokestatic x, 3)) (hH : ro_H g M H) (hS : va_S (ro_A g) s.heap H locs) (hl : lv_has ls nL (ro_tl g lv)) (hcs : cs.1 ≤ mx.1 ∧ cs.2 ≤ mx.2) : W p l e R s m args below meth c H locs cs.1 cs.2 Q (F0 m pc ls (st.map (ro_tv g))) := by
  unfold ro_ac at h
  replace h := ro_pI_inv h
  obtain ⟨n, st, rfl, h⟩ := h
  replace h := ro_pI_inv h
  obtain ⟨dp, st, rfl, h⟩ := h
  replace h := ro_pR_inv h
  obtain ⟨c1, st, rfl, h⟩ := h
  replace h := ro_pI_inv h
  obtain ⟨sp, st, rfl, h⟩ := h
  replace h := ro_pR_inv h
  obtain ⟨c0, st, rfl, h⟩ := h
  obtain ⟨hroom, h40, h41, h1, h2, h3, h4, h5, h⟩ := h
  rcases h with ⟨k0, k1, h⟩ | ⟨k0, k1, h⟩
  · have hl0 := ro_kd_lt k0 (by decide)
    have hl1 := ro_kd_lt k1 (by decide)
    have e0 : (ro_ws g M)[c0 - 4]? = some (ro_ad g c0, .inl (g.2.1 0, (ro_kd M c0).2, .inl (M.2.1 c0))) := by rw [ro_ws_get g h40 hl0, ro_ent16 k0]
    have e1 : (ro_ws g M)[c1 - 4]? = some (ro_ad g c1, .inl (g.2.1 0, (ro_kd M c1).2, .inl (M.2.1 c1))) := by rw [ro_ws_get g h41 hl1, ro_ent16 k1]
    refine ro_copyW (mk := fun z => .int z) (e0 := .inr (0, [])) (e1 := .inr (0, [])) hx hb (hml.trans hl.1.symm) hown hts hG hK (t0 := 0) rfl rfl (fun _ _ h => by cases h) h40 h41 hl1 (hH.1 _ _ e0) (hH.1 _ _ e1) h1 h2 h3 h4 h5 (fun _ _ => rfl) hlk hf hlo hroom hdg hH hS (M' := (M.1, ro_row M.2.1 c1 (va_cpy (M.2.1 c0) (M.2.1 c1) sp.toNatClampNeg dp.toNatClampNeg n.toNatClampNeg), M.2.2.1, M.2.2.2)) rfl (fun c' hc' => ro_ent_eq rfl (ro_row_ne hc') rfl rfl) (fun H1 hh => ?_) (fun H1 locs1 a1 a2 => h H1 locs1 ls a1 a2 hl hcs)
    rw [ro_ent16 (by rw [ro_kd_eq rfl]; exact k1)]
    show H1[_]? = some (vp_cell _ _)
    rw [hh, vp_cell_i]
    congr 2
    funext j
    show Value.int _ = Value.int (ro_row M.2.1 c1 _ c1 j)
    rw [ro_row_eq]
  · have hl0 := ro_kd_lt k0 (by decide)
    have hl1 := ro_kd_lt k1 (by decide)
    have e0 : (ro_ws g M)[c0 - 4]? = some (ro_ad g c0, .inl (g.2.1 1, (ro_kd M c0).2, .inr (.inl (M.2.2.1 c0)))) := by rw [ro_ws_get g h40 hl0, ro_ent17 k0]
    have e1 : (ro_ws g M)[c1 - 4]? = some (ro_ad g c1, .inl (g.2.1 1, (ro_kd M c1).2, .inr (.inl (M.2.2.1 c1)))) := by rw [ro_ws_get g h41 hl1, ro_ent17 k1]
    refine ro_copyW (mk := fun z => .long z) (e0 := .inr (0, [])) (e1 := .inr (0, [])) hx hb (hml.trans hl.1.symm) hown hts hG hK (t0 := 1) rfl rfl (fun _ _ h => by cases h) h40 h41 hl1 (hH.1 _ _ e0) (hH.1 _ _ e1) h1 h2 h3 h4 h5 (fun _ _ => rfl) hlk hf hlo hroom hdg hH hS (M' := (M.1, M.2.1, ro_row M.2.2.1 c1 (va_cpy (M.2.2.1 c0) (M.2.2.1 c1) sp.toNatClampNeg dp.toNatClampNeg n.toNatClampNeg), M.2.2.2)) rfl (fun c' hc' => ro_ent_eq rfl rfl (ro_row_ne hc') rfl) (fun H1 hh => ?_) (fun H1 locs1 a1 a2 => h H1 locs1 ls a1 a2 hl hcs)
    rw [ro_ent17 (by rw [ro_kd_eq rfl]; exact k1)]
    show H1[_]? = some (vp_cell _ _)
    rw [hh, vp_cell_l]
    congr 2
    funext j
    show Value.long _ = Value.long (ro_row M.2.2.1 c1 _ c1 j)
    rw [ro_row_eq]
end ROK
