/-! rows of the small machine for what only the law does: doubles, clone, calls that make something; the law's rows of numbers -/
section RSL
variable {X : ro_Sx} {d y : Nat} {post : ro_Po} {pc q : Nat} {lv lv2 : ro_Lv} {st : List Value} {M : ro_Mm} {cs : Nat × Nat} {a b nL : Nat}
theorem rs_dconst {n : Fin 2} {v : UInt64} (hi : ro_ix y pc = some (pc, .dconst n, a, b)) (hp : pc + 1 = q) (hv : (if n = 0 then FP.dconst0 else FP.dconst1) = v) (h : ro_w X d y post q lv (.double v :: st) M cs) : ro_w X d y post pc lv (st) M cs := by
  subst hp
  subst hv
  exact rs_any hi rfl h
theorem rs_ldc2x {x : Nat} {v : UInt64} {e : Nat × Nat × UInt64 × Nat} (hi : ro_ix y pc = some (pc, .ldc2_w x, 1, b)) (hp : pc + 3 = q) (hf : ro_KX.find? (fun e => e.1 == (ro_m y).2.2.2.2.1 && e.2.1 == x) = some e) (hv : e.2.2.1 = v) (h : ro_w X d y post q lv (.double v :: st) M cs) : ro_w X d y post pc lv (st) M cs := by
  subst hp
  subst hv
  refine rs_any hi rfl ?_
  show ro_kx (ro_m y).2.2.2.2.1 x (fun v => ro_w X d y post (pc + 3) lv (.double v :: st) M cs)
  unfold ro_kx
  rw [hf]
  exact h
theorem rs_dload {n : Nat} {x : UInt64} (hi : ro_ix y pc = some (pc, .dload n, a, b)) (hp : pc + 2 = q) (hl : ro_ld lv n = some (.double x)) (h : ro_w X d y post q lv (.double x :: st) M cs) : ro_w X d y post pc lv (st) M cs := by
  subst hp
  refine rs_any hi rfl ?_
  show ro_lD _ _
  rw [hl]
  exact h
theorem rs_dstore {n : Nat} {x : UInt64} (hi : ro_ix y pc = some (pc, .dstore n, a, b)) (hp : pc + 2 = q) (hm : (ro_m y).2.2.1 = nL) (hn : n + 1 < nL) (hl : ro_s2 lv n (.double x) = lv2) (h : ro_w X d y post q lv2 (st) M cs) : ro_w X d y post pc lv (.double x :: st) M cs := by
  subst hp hm hl
  exact rs_any hi rfl ⟨hn, h⟩
theorem rs_dadd {u v r : UInt64} (hi : ro_ix y pc = some (pc, .dadd, a, b)) (hp : pc + 1 = q) (ok : vf_n64 (FP.dadd u v)) (hr : FP.dadd u v = r) (h : ro_w X d y post q lv (.double r :: st) M cs) : ro_w X d y post pc lv (.double v :: .double u :: st) M cs := by
  subst hp hr
  exact rs_any hi rfl ⟨ok, h⟩
theorem rs_dsub {u v r : UInt64} (hi : ro_ix y pc = some (pc, .dsub, a, b)) (hp : pc + 1 = q) (ok : vf_n64 (FP.dsub u v)) (hr : FP.dsub u v = r) (h : ro_w X d y post q lv (.double r :: st) M cs) : ro_w X d y post pc lv (.double v :: .double u :: st) M cs := by
  subst hp hr
  exact rs_any hi rfl ⟨ok, h⟩
theorem rs_dmul {u v r : UInt64} (hi : ro_ix y pc = some (pc, .dmul, a, b)) (hp : pc + 1 = q) (ok : vf_n64 (FP.dmul u v)) (hr : FP.dmul u v = r) (h : ro_w X d y post q lv (.double r :: st) M cs) : ro_w X d y post pc lv (.double v :: .double u :: st) M cs := by
  subst hp hr
  exact rs_any hi rfl ⟨ok, h⟩
theorem rs_ddiv {u v r : UInt64} (hi : ro_ix y pc = some (pc, .ddiv, a, b)) (hp : pc + 1 = q) (ok : vf_n64 (FP.ddiv u v)) (hr : FP.ddiv u v = r) (h : ro_w X d y post q lv (.double r :: st) M cs) : ro_w X d y post pc lv (.double v :: .double u :: st) M cs := by
  subst hp hr
  exact rs_any hi rfl ⟨ok, h⟩
theorem rs_dcmp {op : CmpOp} {u v : UInt64} {r : Int32} (hi : ro_ix y pc = some (pc, .dcmp op, a, b)) (hp : pc + 1 = q) (hr : Op.cmpValue (FP.dcmp u v) op = r) (h : ro_w X d y post q lv (.int r :: st) M cs) : ro_w X d y post pc lv (.double v :: .double u :: st) M cs := by
  subst hp hr
  exact rs_any hi rfl h
theorem rs_i2d {u : Int32} {r : UInt64} (hi : ro_ix y pc = some (pc, .i2d, a, b)) (hp : pc + 1 = q) (hr : FP.i2d u = r) (h : ro_w X d y post q lv (.double r :: st) M cs) : ro_w X d y post pc lv (.int u :: st) M cs := by
  subst hp hr
  exact rs_any hi rfl h
theorem rs_l2d {u : Int64} {r : UInt64} (hi : ro_ix y pc = some (pc, .l2d, a, b)) (hp : pc + 1 = q) (hr : FP.l2d u = r) (h : ro_w X d y post q lv (.double r :: st) M cs) : ro_w X d y post pc lv (.long u :: st) M cs := by
  subst hp hr
  exact rs_any hi rfl h
theorem rs_abs {x : Nat} {u r : UInt64} (hi : ro_ix y pc = some (pc, .invokestatic x, a, 5)) (hp : pc + 3 = q) (hc : ro_cat st ≤ 8) (ok : vf_n64 u) (hr : ro_abs u = r) (h : ro_w X d y post q lv (.double r :: st) M cs) : ro_w X d y post pc lv (.double u :: st) M cs := by
  subst hp hr
  exact rs_any hi rfl ⟨hc, ok, h⟩
theorem rs_clone {x c n c0 : Nat} {c1 c2 : Nat} {mx : Nat × Nat} (hi : ro_ix y pc = some (pc, .invokevirtual x, a, 7)) (hp : pc + 3 = q) (hl : ro_lim y = mx) (hr : ro_cat st ≤ 8) (h4 : 4 ≤ c) (hk : ro_kd M c = (16, n)) (hc : M.1.length + 4 = c0) (h1 : cs.1 + 1 = c1) (h2 : cs.2 + n = c2) (m1 : c1 ≤ mx.1) (m2 : c2 ≤ mx.2) (h : ro_w X d y post q lv (.ref c0 :: st) (ro_cpy M c) (c1, c2)) : ro_w X d y post pc lv (.ref c :: st) M cs := by
  have e1 : (ro_kd M c).1 = 16 := by rw [hk]
  have e2 : (ro_kd M c).2 = n := by rw [hk]
  subst hp hl hc h1 h2
  refine rs_any hi rfl ⟨hr, h4, e1, m1, ?_, ?_⟩
  · rw [e2]; exact m2
  · rw [e2]; exact h
theorem rs_cast {x : Nat} {c n : Nat} (hi : ro_ix y pc = some (pc, .checkcast x, a, b)) (hp : pc + 3 = q) (h4 : 4 ≤ c) (hk : ro_kd M c = (16, n)) (h : ro_w X d y post q lv (.ref c :: st) M cs) : ro_w X d y post pc lv (.ref c :: st) M cs := by
  subst hp
  exact rs_any hi rfl ⟨h4, by rw [hk], h⟩
theorem rs_areti {c : Nat} (hi : ro_ix y pc = some (pc, .areturn, a, b)) (hr : (ro_m y).2.2.2.1 = some (.array .int)) (hcs : cs.1 ≤ (ro_lim y).1 ∧ cs.2 ≤ (ro_lim y).2) (h : post (some (.ref c)) M) : ro_w X d y post pc lv [.ref c] M cs :=
  rs_end hi rfl ⟨hcs.1, hcs.2, Or.inr hr, h⟩
/-- a static call that makes something -/
theorem rs_statl {x n K : Nat} {As r : List Value} {P : ro_Po} {c1 c2 : Nat} {lm mx : Nat × Nat} (hi : ro_ix y pc = some (pc, .invokestatic x, a, 0)) (hp : pc + 3 = q) (hm : (ro_m a).2.2.2.2.2.1 = n) (hA : As.length = n) (hst : st = As.reverse ++ r) (hr : ro_cat r ≤ 8) (hl : ro_lim a = lm) (hl2 : ro_lim y = mx) (h1 : cs.1 + lm.1 = c1) (h2 : cs.2 + lm.2 = c2) (m1 : c1 ≤ mx.1) (m2 : c2 ≤ mx.2) (hK : K ≤ d) (hs : ro_cwp X K a As M P)
    (h : ∀ v M2, P v M2 → ro_w X d y post q lv (v.toList ++ r) M2 (c1, c2)) : ro_w X d y post pc lv st M cs := by
  subst hp hst hm hl hl2 h1 h2
  have hlen : (As.reverse).length = (ro_m a).2.2.2.2.2.1 := by rw [List.length_reverse]; exact hA
  refine rs_any hi rfl ⟨by rw [List.length_append, hlen]; exact Nat.le_add_right _ _, ?_⟩
  rw [← hlen, List.drop_left, List.take_left, List.reverse_reverse]
  exact ⟨hr, m1, m2, ro_cwp_up hK (fun v M2 hv => h v M2 hv) hs⟩
end RSL
theorem shr_c : ∀ k, k < 32 → ((nI k &&& 31).toBitVec.smod 32).toNat = k := by decide +kernel
theorem nI_shr {v k : Nat} (hv : v < 2 ^ 31) (hk : k < 32) : nI v >>> (nI k &&& 31) = nI (v / 2 ^ k) := by
  have hd : v / 2 ^ k < 2 ^ 31 := Nat.lt_of_le_of_lt (Nat.div_le_self _ _) hv
  apply Int32.toInt_inj.mp
  rw [nI_toInt hd, ← Int32.toInt_toBitVec, Int32.toBitVec_shiftRight, BitVec.toInt_sshiftRight', shr_c k hk, Int32.toInt_toBitVec, nI_toInt hv, Int.shiftRight_eq_div_pow]
  simp
theorem and24 (v : Int32) : ∃ n, n < 16777216 ∧ v &&& 16777215 = nI n := by
  refine ⟨(v.toBitVec &&& 16777215#32).toNat, ?_, ?_⟩
  · rw [BitVec.toNat_and]
    exact Nat.lt_of_le_of_lt Nat.and_le_right (by decide)
  · apply Int32.toBitVec_inj.mp
    rw [Int32.toBitVec_and]
    show _ = (Int32.ofNat _).toBitVec
    rw [Int32.toBitVec_ofNat', BitVec.ofNat_toNat, BitVec.setWidth_eq]
    rfl
theorem nI_and1 (a : Nat) : nI a &&& nI 1 = nI (a % 2) := by rw [nx_and]; congr 1; exact Nat.and_two_pow_sub_one_eq_mod a 1
theorem nI_and3 (a : Nat) : nI a &&& nI 3 = nI (a % 4) := by rw [nx_and]; congr 1; exact Nat.and_two_pow_sub_one_eq_mod a 2
/-- a row of the law's -/
def lr_a (M : ro_Mm) (c n : Nat) (f : Nat → Nat) : Prop := ro_kd M c = (16, n) ∧ ∀ i, i < n → M.2.1 c i = nI (f i)
theorem lr_g {M : ro_Mm} {c n i : Nat} {f : Nat → Nat} (h : lr_a M c n f) (hi : i < n) (hn : n < 1000) : M.2.1 c (nI i).toNatClampNeg = nI (f i) := by
  rw [nI_clamp (by omega)]
  exact h.2 i hi
theorem lr_4 {L : List (List Int32 × List Int32)} {M : ro_Mm} (h : kv L M) : (ro_kd M 4).1 = 11 := by
  have h1 := h.1.1
  have e : M.1.getD 0 (99, 0) = (M.1.take 159).getD 0 (99, 0) := by
    cases M.1 with
    | nil => rfl
    | cons a l => rfl
  unfold ro_kd
  rw [e, h1]
  rfl
theorem lr_w {S : Nat → Nat → Bool} {M M2 : ro_Mm} {c n : Nat} {f : Nat → Nat} (h : lr_a M c n f) (g : kw S M M2) (hc : 163 ≤ c) : lr_a M2 c n f := by
  refine ⟨?_, fun i hi => ?_⟩
  · unfold ro_kd; rw [g.1]; exact h.1
  · rw [(g.2.2.2.2.2 c (by omega)).1]; exact h.2 i hi
theorem lr_q {M M2 : ro_Mm} {c n : Nat} {f : Nat → Nat} (h : lr_a M c n f) (g : kq M M2) (hc : 163 ≤ c) : lr_a M2 c n f := lr_w h (kq_w g) hc
/-- a row of the law's, written -/
theorem lr_s {M : ro_Mm} {c n i x : Nat} {f : Nat → Nat} (h : lr_a M c n f) : lr_a (ro_sI M c i (nI x)) c n (fun k => if k = i then x else f k) := by
  refine ⟨h.1, fun k hk => ?_⟩
  rw [ro_rd_s]
  by_cases e : k = i
  · rw [if_pos ⟨rfl, e⟩]; exact congrArg nI (if_pos e).symm
  · rw [if_neg (fun q => e q.2)]; exact (h.2 k hk).trans (congrArg nI (if_neg e).symm)
theorem lr_o {M : ro_Mm} {c c2 n i : Nat} {x : Int32} {f : Nat → Nat} (h : lr_a M c n f) (hc : c ≠ c2) : lr_a (ro_sI M c2 i x) c n f := ⟨h.1, fun k hk => (ro_sI_ne hc).trans (h.2 k hk)⟩
/-- what is written behind the class's cells -/
theorem kq_s {M : ro_Mm} {c i : Nat} {x : Int32} (h : kv_q M) (hc : 163 ≤ c) : kv_q (ro_sI M c i x) := h
theorem kv_s {L : List (List Int32 × List Int32)} {M : ro_Mm} {c i : Nat} {x : Int32} (h : kv L M) (hc : 163 ≤ c) : kv L (ro_sI M c i x) :=
  ⟨h.1, kv_r_c (fun c2 j h2 _ => ro_sI_ne (by omega)) h.2⟩
/-- something new behind all, c0 -/
def nw (M M2 : ro_Mm) (c0 : Nat) : Prop := c0 = M.1.length + 4 ∧ (∃ s, M2.1 = M.1 ++ [s]) ∧ ∀ c, c ≠ c0 → M2.2.1 c = M.2.1 c ∧ M2.2.2.1 c = M.2.2.1 c ∧ M2.2.2.2 c = M.2.2.2 c
theorem nw_new {M : ro_Mm} {s : Nat × Nat} : nw M (ro_new M s) (M.1.length + 4) := ⟨rfl, ⟨s, rfl⟩, fun c hc => ⟨funext fun _ => if_neg hc, funext fun _ => if_neg hc, funext fun _ => if_neg hc⟩⟩
theorem nw_cpy {M : ro_Mm} {c : Nat} : nw M (ro_cpy M c) (M.1.length + 4) := ⟨rfl, ⟨ro_kd M c, rfl⟩, fun c hc => ⟨funext fun _ => if_neg hc, funext fun _ => if_neg hc, funext fun _ => if_neg hc⟩⟩
theorem nw_s {M M2 : ro_Mm} {c0 i : Nat} {x : Int32} (h : nw M M2 c0) : nw M (ro_sI M2 c0 i x) c0 :=
  ⟨h.1, h.2.1, fun c hc => ⟨(funext fun _ => ro_sI_ne hc).trans (h.2.2 c hc).1, (h.2.2 c hc).2.1, (h.2.2 c hc).2.2⟩⟩
theorem nw_r {M M2 : ro_Mm} {c0 : Nat} {g : Nat → Int32} (h : nw M M2 c0) : nw M (M2.1, ro_row M2.2.1 c0 g, M2.2.2.1, M2.2.2.2) c0 :=
  ⟨h.1, h.2.1, fun c hc => ⟨(funext fun _ => if_neg hc).trans (h.2.2 c hc).1, (h.2.2 c hc).2.1, (h.2.2 c hc).2.2⟩⟩
theorem kd_nw {M M2 : ro_Mm} {c c0 : Nat} (h : nw M M2 c0) (hc : c < c0) (h4 : 5 ≤ c0) : ro_kd M2 c = ro_kd M c := by
  obtain ⟨h1, ⟨s, h2⟩, _⟩ := h
  unfold ro_kd
  rw [h2, List.getD_eq_getElem?_getD, List.getD_eq_getElem?_getD, List.getElem?_append_left (by omega)]
theorem lr_nw {M M2 : ro_Mm} {c c0 n : Nat} {f : Nat → Nat} (h : lr_a M c n f) (g : nw M M2 c0) (hc : c < c0) (h4 : 5 ≤ c0) : lr_a M2 c n f :=
  ⟨(kd_nw g hc h4).trans h.1, fun i hi => by rw [(g.2.2 c (by omega)).1]; exact h.2 i hi⟩
theorem kd_it {M : ro_Mm} {s : Nat × Nat} : ro_kd (ro_new M s) (M.1.length + 4) = s := by
  unfold ro_kd ro_new
  show (M.1 ++ [s]).getD (M.1.length + 4 - 4) (99, 0) = s
  rw [List.getD_eq_getElem?_getD, show M.1.length + 4 - 4 = M.1.length by omega, List.getElem?_append_right (Nat.le_refl _), Nat.sub_self]
  rfl
theorem lr_new {M : ro_Mm} {n : Nat} : lr_a (ro_new M (16, n)) (M.1.length + 4) n (fun _ => 0) := ⟨kd_it, fun i _ => by
  show ro_row M.2.1 (M.1.length + 4) (fun _ => 0) (M.1.length + 4) i = nI 0
  unfold ro_row
  rw [if_pos rfl]; rfl⟩
theorem kv_len {L : List (List Int32 × List Int32)} {M : ro_Mm} (h : kv L M) : 159 ≤ M.1.length := by
  have h1 := congrArg List.length h.1.1
  rw [List.length_take] at h1
  have e : ro_sh.length = 159 := by decide +kernel
  omega
theorem kv_nw {L : List (List Int32 × List Int32)} {M M2 : ro_Mm} {c0 : Nat} (h : kv L M) (g : nw M M2 c0) : kv L M2 := by
  have hl := kv_len h
  obtain ⟨g1, ⟨s, g2⟩, g3⟩ := g
  refine ⟨⟨?_, fun e he => ?_, ?_⟩, kv_r_c (fun c j h2 _ => by rw [(g3 c (by omega)).1]) h.2⟩
  · rw [g2, List.take_append_of_le_length hl]; exact h.1.1
  · have hb : e.1 < 163 := (show ∀ x, x ∈ ro_rt → x.1 < 163 by decide +kernel) e he
    rw [(g3 e.1 (by omega)).2.2]; exact h.1.2.1 e he
  · unfold ro_lev
    rw [(g3 62 (by omega)).2.2]
    exact h.1.2.2
/-- a row's copy -/
theorem cpy_new {M : ro_Mm} {c n : Nat} {f : Nat → Nat} (h : lr_a M c n f) : lr_a (ro_cpy M c) (M.1.length + 4) n f := by
  refine ⟨?_, fun i hi => ?_⟩
  · unfold ro_kd ro_cpy
    show (M.1 ++ [ro_kd M c]).getD (M.1.length + 4 - 4) (99, 0) = _
    rw [List.getD_eq_getElem?_getD, show M.1.length + 4 - 4 = M.1.length by omega, List.getElem?_append_right (Nat.le_refl _), Nat.sub_self]
    exact h.1
  · show ro_row M.2.1 (M.1.length + 4) (M.2.1 c) (M.1.length + 4) i = _
    unfold ro_row
    rw [if_pos rfl]
    exact h.2 i hi
theorem kw_t {S : Nat → Nat → Bool} {A B C : ro_Mm} (h : kw S A B) (g : kw S B C) : kw S A C :=
  ⟨g.1.trans h.1, fun c j a b e => (g.2.1 c j a b e).trans (h.2.1 c j a b e), fun c j a b e => (g.2.2.1 c j a b e).trans (h.2.2.1 c j a b e), g.2.2.2.1, g.2.2.2.2.1, fun c hc => ⟨(g.2.2.2.2.2 c hc).1.trans (h.2.2.2.2.2 c hc).1, (g.2.2.2.2.2 c hc).2.1.trans (h.2.2.2.2.2 c hc).2.1, (g.2.2.2.2.2 c hc).2.2.trans (h.2.2.2.2.2 c hc).2.2⟩⟩
theorem kw_u {S T : Nat → Nat → Bool} {A B : ro_Mm} (hST : ∀ c j, T c j = false → S c j = false) (h : kw S A B) : kw T A B :=
  ⟨h.1, fun c j a b e => h.2.1 c j a b (hST c j e), fun c j a b e => h.2.2.1 c j a b (hST c j e), h.2.2.2⟩
theorem kw_kq {S : Nat → Nat → Bool} {A B : ro_Mm} (h : kq A B) : kw S A B := kw_u (fun _ _ _ => rfl) (kq_w h)
theorem kw_r {S : Nat → Nat → Bool} {A : ro_Mm} (h : kv_q A) : kw S A A := kw_kq (kq_r h)
theorem sh_q {M M2 : ro_Mm} {S : Nat → Nat → Bool} {s z : Nat} {f : Nat → Nat} (hs : s < 6) (g : kw S M M2) (h1 : ∀ j, S (23 + 2 * s) j = false) (h2 : ∀ j, S (24 + 2 * s) j = false) (h : sh_b M s z f) : sh_b M2 s z f := by
  have e : ∀ j, M2.2.1 (23 + 2 * s) j = M.2.1 (23 + 2 * s) j := fun j => g.2.1 _ j (by omega) (by unfold ro_lv; rw [ro_ls_i hs j]; exact Bool.or_true _) (h1 j)
  have e2 : ∀ j, M2.2.2.1 (24 + 2 * s) j = M.2.2.1 (24 + 2 * s) j := fun j => g.2.2.1 _ j (by omega) (ro_lj_i hs) (h2 j)
  obtain ⟨b1, b2, b3⟩ := h
  exact ⟨(e 1).trans b1, (e 2).trans b2, fun i hi => by rw [e2]; exact b3 i hi⟩
theorem sh_nw {M M2 : ro_Mm} {c0 s z : Nat} {f : Nat → Nat} (hs : s < 6) (g : nw M M2 c0) (h0 : 163 ≤ c0) (h : sh_b M s z f) : sh_b M2 s z f := by
  obtain ⟨b1, b2, b3⟩ := h
  have e := g.2.2 (23 + 2 * s) (by omega)
  have e2 := g.2.2 (24 + 2 * s) (by omega)
  exact ⟨by rw [e.1]; exact b1, by rw [e.1]; exact b2, fun i hi => by rw [e2.2.1]; exact b3 i hi⟩
theorem sh_f {M : ro_Mm} {s z : Nat} {f g : Nat → Nat} (h : sh_b M s z f) (e : ∀ i, i < z → g i = f i) : sh_b M s z g := ⟨h.1, h.2.1, fun i hi => by rw [e i hi]; exact h.2.2 i hi⟩
theorem lr_f {M : ro_Mm} {c n : Nat} {f g : Nat → Nat} (h : lr_a M c n f) (e : ∀ i, i < n → g i = f i) : lr_a M c n g := ⟨h.1, fun i hi => by rw [e i hi]; exact h.2 i hi⟩
theorem kq_si {M : ro_Mm} {c i : Nat} {x : Int32} (h : kv_q M) (hc : 163 ≤ c) {S : Nat → Nat → Bool} : (ro_sI M c i x).1 = M.1 ∧ (∀ c2 j, c2 < 163 → (ro_sI M c i x).2.1 c2 j = M.2.1 c2 j) ∧ (ro_sI M c i x).2.2.1 = M.2.2.1 := ⟨rfl, fun c2 j h2 => ro_sI_ne (by omega), rfl⟩
theorem sh_si {M : ro_Mm} {c i s z : Nat} {x : Int32} {f : Nat → Nat} (hs : s < 6) (hc : 163 ≤ c) (h : sh_b M s z f) : sh_b (ro_sI M c i x) s z f := by
  obtain ⟨b1, b2, b3⟩ := h
  exact ⟨(ro_sI_ne (by omega)).trans b1, (ro_sI_ne (by omega)).trans b2, b3⟩
