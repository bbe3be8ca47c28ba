/-! the frame: a method that makes nothing, run in a memory with more cells behind its own, does there what it does without them, and leaves them -/
/-- M is G, and F behind its n cells -/
def sh_R (n : Nat) (F G M : ro_Mm) : Prop := G.1.length = n ∧ M.1 = F.1 ∧ F.1.take n = G.1 ∧
  (∀ c, c < n + 4 → M.2.1 c = G.2.1 c ∧ M.2.2.1 c = G.2.2.1 c ∧ M.2.2.2 c = G.2.2.2 c) ∧
  (∀ c, ¬ c < n + 4 → M.2.1 c = F.2.1 c ∧ M.2.2.1 c = F.2.2.1 c ∧ M.2.2.2 c = F.2.2.2 c)
theorem sh_kd {n : Nat} {F G M : ro_Mm} (h : sh_R n F G M) {c : Nat} (hc : (ro_kd G c).1 < 99) : ro_kd M c = ro_kd G c ∧ c < n + 4 := by
  have h1 : c - 4 < G.1.length := ro_kd_lt rfl hc
  have hn := h.1
  refine ⟨?_, by omega⟩
  unfold ro_kd
  rw [h.2.1, ← h.2.2.1, List.getD_eq_getElem?_getD, List.getD_eq_getElem?_getD, List.getElem?_take_of_lt (by omega)]
theorem sh_gf {n : Nat} {F G M : ro_Mm} (h : sh_R n F G M) {c : Nat} (hc : c < n + 4) (t : FieldType) (j : Nat) : ro_gf M t c j = ro_gf G t c j := by
  obtain ⟨h1, h2, h3⟩ := h.2.2.2.1 c hc
  unfold ro_gf
  cases t <;> simp only [h1, h2, h3]
theorem sh_sI {n : Nat} {F G M : ro_Mm} (h : sh_R n F G M) {c j : Nat} (hc : c < n + 4) (v : Int32) : sh_R n F (ro_sI G c j v) (ro_sI M c j v) := by
  obtain ⟨h1, h2, h3, h4, h5⟩ := h
  refine ⟨h1, h2, h3, fun a ha => ⟨?_, (h4 a ha).2⟩, fun a ha => ⟨?_, (h5 a ha).2⟩⟩
  · funext b
    show ro_up2 M.2.1 c j v a b = ro_up2 G.2.1 c j v a b
    unfold ro_up2
    rw [(h4 a ha).1]
  · show ro_up2 M.2.1 c j v a = _
    rw [ro_up2_ne (fun e => ha (by rw [e]; exact hc))]
    exact (h5 a ha).1
theorem sh_sJ {n : Nat} {F G M : ro_Mm} (h : sh_R n F G M) {c j : Nat} (hc : c < n + 4) (v : Int64) : sh_R n F (ro_sJ G c j v) (ro_sJ M c j v) := by
  obtain ⟨h1, h2, h3, h4, h5⟩ := h
  refine ⟨h1, h2, h3, fun a ha => ⟨(h4 a ha).1, ?_, (h4 a ha).2.2⟩, fun a ha => ⟨(h5 a ha).1, ?_, (h5 a ha).2.2⟩⟩
  · funext b
    show ro_up2 M.2.2.1 c j v a b = ro_up2 G.2.2.1 c j v a b
    unfold ro_up2
    rw [(h4 a ha).2.1]
  · show ro_up2 M.2.2.1 c j v a = _
    rw [ro_up2_ne (fun e => ha (by rw [e]; exact hc))]
    exact (h5 a ha).2.1
theorem sh_sR {n : Nat} {F G M : ro_Mm} (h : sh_R n F G M) {c j : Nat} (hc : c < n + 4) (v : Value) : sh_R n F (ro_sR G c j v) (ro_sR M c j v) := by
  obtain ⟨h1, h2, h3, h4, h5⟩ := h
  refine ⟨h1, h2, h3, fun a ha => ⟨(h4 a ha).1, (h4 a ha).2.1, ?_⟩, fun a ha => ⟨(h5 a ha).1, (h5 a ha).2.1, ?_⟩⟩
  · funext b
    show ro_up2 M.2.2.2 c j v a b = ro_up2 G.2.2.2 c j v a b
    unfold ro_up2
    rw [(h4 a ha).2.2]
  · show ro_up2 M.2.2.2 c j v a = _
    rw [ro_up2_ne (fun e => ha (by rw [e]; exact hc))]
    exact (h5 a ha).2.2
theorem sh_rI {n : Nat} {F G M : ro_Mm} (h : sh_R n F G M) {c : Nat} (hc : c < n + 4) {f g : Nat → Int32} (e : g = f) : sh_R n F (G.1, ro_row G.2.1 c f, G.2.2.1, G.2.2.2) (M.1, ro_row M.2.1 c g, M.2.2.1, M.2.2.2) := by
  subst e
  obtain ⟨h1, h2, h3, h4, h5⟩ := h
  refine ⟨h1, h2, h3, fun a ha => ⟨?_, (h4 a ha).2⟩, fun a ha => ⟨?_, (h5 a ha).2⟩⟩
  · funext b
    show ro_row M.2.1 c g a b = ro_row G.2.1 c g a b
    unfold ro_row
    rw [(h4 a ha).1]
  · show ro_row M.2.1 c g a = _
    rw [ro_row_ne (fun e => ha (by rw [e]; exact hc))]
    exact (h5 a ha).1
theorem sh_rJ {n : Nat} {F G M : ro_Mm} (h : sh_R n F G M) {c : Nat} (hc : c < n + 4) {f g : Nat → Int64} (e : g = f) : sh_R n F (G.1, G.2.1, ro_row G.2.2.1 c f, G.2.2.2) (M.1, M.2.1, ro_row M.2.2.1 c g, M.2.2.2) := by
  subst e
  obtain ⟨h1, h2, h3, h4, h5⟩ := h
  refine ⟨h1, h2, h3, fun a ha => ⟨(h4 a ha).1, ?_, (h4 a ha).2.2⟩, fun a ha => ⟨(h5 a ha).1, ?_, (h5 a ha).2.2⟩⟩
  · funext b
    show ro_row M.2.2.1 c g a b = ro_row G.2.2.1 c g a b
    unfold ro_row
    rw [(h4 a ha).2.1]
  · show ro_row M.2.2.1 c g a = _
    rw [ro_row_ne (fun e => ha (by rw [e]; exact hc))]
    exact (h5 a ha).2.1
section SHARE
variable {n : Nat} {F G M : ro_Mm}
theorem sh_pf {t : FieldType} {c j : Nat} {v : Value} {f f2 : ro_Mm → Prop} (hR : sh_R n F G M) (hc : c < n + 4) (hf : ∀ G M : ro_Mm, sh_R n F G M → f G → f2 M) (h : ro_pf G t c j v f) : ro_pf M t c j v f2 := by
  unfold ro_pf at h ⊢
  split at h
  · exact hf _ _ (sh_sJ hR hc _) h
  · exact hf _ _ (sh_sI hR hc _) h
  · exact ⟨h.1, hf _ _ (sh_sI hR hc _) h.2⟩
  · exact hf _ _ (sh_sR hR hc _) h
  · exact hf _ _ (sh_sR hR hc _) h
  · exact h.elim
def sh_cl (n : Nat) (cl : Nat → List Value → ro_Mm → ro_Po → Prop) : Prop := ∀ y as (F G M : ro_Mm) (p : ro_Po), (ro_lim y).1 = 0 → sh_R n F G M → cl y as G p → cl y as M (fun v M2 => ∃ G2, p v G2 ∧ sh_R n F G2 M2)
variable {cl : Nat → List Value → ro_Mm → ro_Po → Prop} {X : ro_Sx} {mx : Nat × Nat} {own nL : Nat} {ini : Bool} {pc : Nat} {lv : ro_Lv} {st : List Value} {cs : Nat × Nat} {k k2 : ro_K}
theorem sh_cv {kd : Option Nat} {y : Nat} (hmx : mx.1 = 0) (hkd : ∀ q, kd = some q → q < 99) (hc : ro_clm cl cl ∧ sh_cl n cl) (hR : sh_R n F G M) (hk : ∀ pc lv st (G M : ro_Mm) cs, sh_R n F G M → k pc lv st G cs → k2 pc lv st M cs) (h : ro_cv kd cl mx y pc lv st G cs k) : ro_cv kd cl mx y pc lv st M cs k2 :=
  ⟨h.1, ro_pR_mono (fun c r h => ⟨fun q e => ⟨(h.1 q e).1, by
      have h1 := (h.1 q e).2
      rw [(sh_kd hR (by rw [h1]; exact hkd q e)).1]
      exact h1⟩, h.2.1, h.2.2.1, h.2.2.2.1, hc.1 _ _ _ _ _ (fun _ _ h => by obtain ⟨G2, h1, h2⟩ := h; exact hk _ _ _ _ _ _ h2 h1) (hc.2 _ _ _ _ _ _ (by have := h.2.2.1; omega) hR h.2.2.2.2)⟩) h.2⟩
theorem sh_csm {y : Nat} (hmx : mx.1 = 0) (hc : ro_clm cl cl ∧ sh_cl n cl) (hR : sh_R n F G M) (hk : ∀ pc lv st (G M : ro_Mm) cs, sh_R n F G M → k pc lv st G cs → k2 pc lv st M cs) (h : ro_csm cl mx y pc lv st G cs k) : ro_csm cl mx y pc lv st M cs k2 :=
  ⟨h.1, h.2.1, h.2.2.1, h.2.2.2.1, hc.1 _ _ _ _ _ (fun _ _ h => by obtain ⟨G2, h1, h2⟩ := h; exact hk _ _ _ _ _ _ h2 h1) (hc.2 _ _ _ _ _ _ (by have := h.2.2.1; omega) hR h.2.2.2.2)⟩
theorem sh_math {a : Nat} (hk : ∀ pc lv st cs, k pc lv st G cs → k2 pc lv st M cs) (h : ro_math a pc lv st G cs k) : ro_math a pc lv st M cs k2 := by
  match a, h with
  | 0, h => exact ro_pI_mono (fun _ _ h => ro_pI_mono (fun _ _ h => ⟨h.1, hk _ _ _ _ h.2⟩) h) h
  | 1, h => exact ro_pI_mono (fun _ _ h => ro_pI_mono (fun _ _ h => ⟨h.1, hk _ _ _ _ h.2⟩) h) h
  | 2, h => exact ro_pJ_mono (fun _ _ h => ro_pJ_mono (fun _ _ h => ⟨h.1, hk _ _ _ _ h.2⟩) h) h
  | _ + 3, h => exact h.elim
theorem sh_ac (hR : sh_R n F G M) (hk : ∀ pc lv st (G M : ro_Mm) cs, sh_R n F G M → k pc lv st G cs → k2 pc lv st M cs) (h : ro_ac pc lv st G cs k) : ro_ac pc lv st M cs k2 := by
  refine ro_pI_mono (fun m _ h => ro_pI_mono (fun dp _ h => ro_pR_mono (fun c1 _ h => ro_pI_mono (fun sp _ h => ro_pR_mono (fun c0 _ h => ?_) h) h) h) h) h
  obtain ⟨h1, h2, h3, h4, h5, h6, h7, h8, h9⟩ := h
  rcases h9 with ⟨k0, k1, h9⟩ | ⟨k0, k1, h9⟩
  · obtain ⟨e0, b0⟩ := sh_kd hR (c := c0) (by rw [k0]; decide)
    obtain ⟨e1, b1⟩ := sh_kd hR (c := c1) (by rw [k1]; decide)
    refine ⟨h1, h2, h3, h4, h5, h6, by rw [e0]; exact h7, by rw [e1]; exact h8, Or.inl ⟨by rw [e0]; exact k0, by rw [e1]; exact k1, hk _ _ _ _ _ _ (sh_rI hR b1 ?_) h9⟩⟩
    rw [(hR.2.2.2.1 c0 b0).1, (hR.2.2.2.1 c1 b1).1]
  · obtain ⟨e0, b0⟩ := sh_kd hR (c := c0) (by rw [k0]; decide)
    obtain ⟨e1, b1⟩ := sh_kd hR (c := c1) (by rw [k1]; decide)
    refine ⟨h1, h2, h3, h4, h5, h6, by rw [e0]; exact h7, by rw [e1]; exact h8, Or.inr ⟨by rw [e0]; exact k0, by rw [e1]; exact k1, hk _ _ _ _ _ _ (sh_rJ hR b1 ?_) h9⟩⟩
    rw [(hR.2.2.2.1 c0 b0).2.1, (hR.2.2.2.1 c1 b1).2.1]
theorem sh_mk {a b : Nat} {f f2 : Nat × Nat → Prop} (hmx : mx.1 = 0) (ha : 0 < a) (h : ro_mk mx cs a b f) : ro_mk mx cs a b f2 := by
  have := h.1
  omega
set_option maxHeartbeats 4000000 in
theorem sh_step {i : Instr} {a b : Nat} (hmx : mx.1 = 0) (hok : ro_okL own i a b = true) (hc : ro_clm cl cl ∧ sh_cl n cl) (hcy : ∀ y as M (p : ro_Po), cl y as M p → y < 206) (hR : sh_R n F G M) (hk : ∀ pc lv st (G M : ro_Mm) cs, sh_R n F G M → k pc lv st G cs → k2 pc lv st M cs) (h : ro_step cl X mx own nL ini pc lv st G cs k i a b) : ro_step cl X mx own nL ini pc lv st M cs k2 i a b := by
  have K : ∀ {pc : Nat} {lv : ro_Lv} {st : List Value} {cs : Nat × Nat}, k pc lv st G cs → k2 pc lv st M cs := fun h => hk _ _ _ _ _ _ hR h
  cases i with
  | iconst _ => exact K h
  | bipush _ => exact K h
  | sipush _ => exact K h
  | lconst _ => exact K h
  | dconst _ => exact K h
  | aconst_null => exact K h
  | getstatic _ => exact K h
  | ldc _ =>
    simp only [ro_step] at h ⊢
    exact ro_ki_mono (fun _ h => K h) h
  | ldc_w _ =>
    simp only [ro_step] at h ⊢
    exact ro_ki_mono (fun _ h => K h) h
  | ldc2_w _ =>
    match a, h with
    | 0, h =>
      simp only [ro_step] at h ⊢
      exact ro_kj_mono (fun _ h => K h) h
    | a + 1, h =>
      simp only [ro_step] at h ⊢
      exact ro_kx_mono (fun _ h => K h) h
  | dload_n _ => exact ro_lD_mono (fun _ h => K h) h
  | dload _ => exact ro_lD_mono (fun _ h => K h) h
  | dstore_n _ => exact ro_pD_mono (fun _ _ h => ⟨h.1, K h.2⟩) h
  | dstore _ => exact ro_pD_mono (fun _ _ h => ⟨h.1, K h.2⟩) h
  | dadd => exact ro_pD_mono (fun _ _ h => ro_pD_mono (fun _ _ h => ⟨h.1, K h.2⟩) h) h
  | dsub => exact ro_pD_mono (fun _ _ h => ro_pD_mono (fun _ _ h => ⟨h.1, K h.2⟩) h) h
  | dmul => exact ro_pD_mono (fun _ _ h => ro_pD_mono (fun _ _ h => ⟨h.1, K h.2⟩) h) h
  | ddiv => exact ro_pD_mono (fun _ _ h => ro_pD_mono (fun _ _ h => ⟨h.1, K h.2⟩) h) h
  | dcmp _ => exact ro_pD_mono (fun _ _ h => ro_pD_mono (fun _ _ h => K h) h) h
  | i2d => exact ro_pI_mono (fun _ _ h => K h) h
  | l2d => exact ro_pJ_mono (fun _ _ h => K h) h
  | iload_n _ => exact ro_lI_mono (fun _ h => K h) h
  | iload _ => exact ro_lI_mono (fun _ h => K h) h
  | lload_n _ => exact ro_lJ_mono (fun _ h => K h) h
  | lload _ => exact ro_lJ_mono (fun _ h => K h) h
  | aload_n _ =>
    simp only [ro_step] at h ⊢
    exact ro_lQ_mono (fun _ h => K h) h
  | aload _ =>
    simp only [ro_step] at h ⊢
    exact ro_lQ_mono (fun _ h => K h) h
  | istore_n _ => exact ro_pI_mono (fun _ _ h => ⟨h.1, K h.2⟩) h
  | istore _ => exact ro_pI_mono (fun _ _ h => ⟨h.1, K h.2⟩) h
  | lstore_n _ => exact ro_pJ_mono (fun _ _ h => ⟨h.1, K h.2⟩) h
  | lstore _ => exact ro_pJ_mono (fun _ _ h => ⟨h.1, K h.2⟩) h
  | astore_n _ =>
    simp only [ro_step] at h ⊢
    exact ro_pQ_mono (fun _ _ h => ⟨h.1, K h.2⟩) h
  | astore _ =>
    simp only [ro_step] at h ⊢
    exact ro_pQ_mono (fun _ _ h => ⟨h.1, K h.2⟩) h
  | iinc _ _ => exact ro_lI_mono (fun _ h => ⟨h.1, K h.2⟩) h
  | iadd => exact ro_pI_mono (fun _ _ h => ro_pI_mono (fun _ _ h => K h) h) h
  | isub => exact ro_pI_mono (fun _ _ h => ro_pI_mono (fun _ _ h => K h) h) h
  | imul => exact ro_pI_mono (fun _ _ h => ro_pI_mono (fun _ _ h => K h) h) h
  | iand => exact ro_pI_mono (fun _ _ h => ro_pI_mono (fun _ _ h => K h) h) h
  | ior => exact ro_pI_mono (fun _ _ h => ro_pI_mono (fun _ _ h => K h) h) h
  | ixor => exact ro_pI_mono (fun _ _ h => ro_pI_mono (fun _ _ h => K h) h) h
  | ishl => exact ro_pI_mono (fun _ _ h => ro_pI_mono (fun _ _ h => K h) h) h
  | ishr => exact ro_pI_mono (fun _ _ h => ro_pI_mono (fun _ _ h => K h) h) h
  | iushr => exact ro_pI_mono (fun _ _ h => ro_pI_mono (fun _ _ h => K h) h) h
  | idiv => exact ro_pI_mono (fun _ _ h => ro_pI_mono (fun _ _ h => ⟨h.1, K h.2⟩) h) h
  | irem => exact ro_pI_mono (fun _ _ h => ro_pI_mono (fun _ _ h => ⟨h.1, K h.2⟩) h) h
  | ineg => exact ro_pI_mono (fun _ _ h => K h) h
  | i2l => exact ro_pI_mono (fun _ _ h => K h) h
  | i2b => exact ro_pI_mono (fun _ _ h => K h) h
  | i2s => exact ro_pI_mono (fun _ _ h => K h) h
  | l2i => exact ro_pJ_mono (fun _ _ h => K h) h
  | ladd => exact ro_pJ_mono (fun _ _ h => ro_pJ_mono (fun _ _ h => K h) h) h
  | lmul => exact ro_pJ_mono (fun _ _ h => ro_pJ_mono (fun _ _ h => K h) h) h
  | land => exact ro_pJ_mono (fun _ _ h => ro_pJ_mono (fun _ _ h => K h) h) h
  | lor => exact ro_pJ_mono (fun _ _ h => ro_pJ_mono (fun _ _ h => K h) h) h
  | lxor => exact ro_pJ_mono (fun _ _ h => ro_pJ_mono (fun _ _ h => K h) h) h
  | lcmp => exact ro_pJ_mono (fun _ _ h => ro_pJ_mono (fun _ _ h => K h) h) h
  | ldiv => exact ro_pJ_mono (fun _ _ h => ro_pJ_mono (fun _ _ h => ⟨h.1, K h.2⟩) h) h
  | lrem => exact ro_pJ_mono (fun _ _ h => ro_pJ_mono (fun _ _ h => ⟨h.1, K h.2⟩) h) h
  | lshl => exact ro_pI_mono (fun _ _ h => ro_pJ_mono (fun _ _ h => K h) h) h
  | lshr => exact ro_pI_mono (fun _ _ h => ro_pJ_mono (fun _ _ h => K h) h) h
  | lushr => exact ro_pI_mono (fun _ _ h => ro_pJ_mono (fun _ _ h => K h) h) h
  | dup => exact ro_pV_mono (fun _ _ h => ⟨h.1, K h.2⟩) h
  | pop => exact ro_pV_mono (fun _ _ h => ⟨h.1, K h.2⟩) h
  | dup2 => exact ro_pV_mono (fun _ _ h => ro_pV_mono (fun _ _ h => ⟨h.1, h.2.1, K h.2.2⟩) h) h
  | goto _ => exact ⟨h.1, K h.2⟩
  | ifCond _ _ => exact ro_pI_mono (fun _ _ h => ⟨h.1, ro_if_mono (fun h => K h) (fun h => K h) h.2⟩) h
  | if_icmp _ _ => exact ro_pI_mono (fun _ _ h => ro_pI_mono (fun _ _ h => ⟨h.1, ro_if_mono (fun h => K h) (fun h => K h) h.2⟩) h) h
  | ifnull _ =>
    simp only [ro_step] at h ⊢
    exact ro_pQ_mono (fun _ _ h => ⟨h.1, fun q => K (h.2.1 q), fun q => K (h.2.2 q)⟩) h
  | ifnonnull _ =>
    simp only [ro_step] at h ⊢
    exact ro_pQ_mono (fun _ _ h => ⟨h.1, fun q => K (h.2.1 q), fun q => K (h.2.2 q)⟩) h
  | tableswitch _ _ _ _ => exact ro_pI_mono (fun _ _ h => ro_sw_mono (fun _ h => K h) h) h
  | lookupswitch _ _ => exact ro_pI_mono (fun _ _ h => ⟨h.1, h.2.1, K h.2.2⟩) h
  | getfield _ =>
    obtain ⟨q, hq, -⟩ := ro_linkF hok
    have ha := (ro_clN hq).2.1
    refine ro_pR_mono (fun c st h => ?_) h
    obtain ⟨e, hb⟩ := sh_kd hR (c := c) (by rw [h.2.1]; omega)
    refine ⟨h.1, by rw [e]; exact h.2.1, ?_⟩
    rw [sh_gf hR hb]
    exact K h.2.2
  | putfield _ =>
    obtain ⟨q, hq, -⟩ := ro_linkF hok
    have ha := (ro_clN hq).2.1
    refine ro_pV_mono (fun v st h => ro_pR_mono (fun c st h => ?_) h) h
    obtain ⟨e, hb⟩ := sh_kd hR (c := c) (by rw [h.2.1]; omega)
    exact ⟨h.1, by rw [e]; exact h.2.1, h.2.2.1, sh_pf hR hb (fun G M hR h => hk _ _ _ _ _ _ hR h) h.2.2.2⟩
  | iaload =>
    refine ro_pI_mono (fun i st h => ro_pR_mono (fun c st h => ?_) h) h
    refine ⟨fun z => ⟨(h.1 z).1, (h.1 z).2.1, K (h.1 z).2.2⟩, fun z => ?_⟩
    obtain ⟨h1, h2, h3⟩ := h.2 z
    obtain ⟨e, hb⟩ := sh_kd hR (c := c) (by rw [h1]; decide)
    refine ⟨by rw [e]; exact h1, by rw [e]; exact h2, ?_⟩
    rw [(hR.2.2.2.1 c hb).1]
    exact K h3
  | laload =>
    refine ro_pI_mono (fun i st h => ro_pR_mono (fun c st h => ?_) h) h
    obtain ⟨h0, h1, h2, h3⟩ := h
    obtain ⟨e, hb⟩ := sh_kd hR (c := c) (by rw [h1]; decide)
    refine ⟨h0, by rw [e]; exact h1, by rw [e]; exact h2, ?_⟩
    rw [(hR.2.2.2.1 c hb).2.1]
    exact K h3
  | aaload =>
    refine ro_pI_mono (fun i st h => ro_pR_mono (fun c st h => ?_) h) h
    obtain ⟨h0, h1, h2, h3⟩ := h
    obtain ⟨e, hb⟩ := sh_kd hR (c := c) (by rcases h1 with q | q <;> rw [q] <;> decide)
    refine ⟨h0, by rw [e]; exact h1, by rw [e]; exact h2, ?_⟩
    rw [(hR.2.2.2.1 c hb).2.2]
    exact ro_lQ_mono (fun _ h => K h) h3
  | iastore =>
    refine ro_pI_mono (fun x st h => ro_pI_mono (fun i st h => ro_pR_mono (fun c st h => ?_) h) h) h
    obtain ⟨h0, h1, h2, h3⟩ := h
    obtain ⟨e, hb⟩ := sh_kd hR (c := c) (by rw [h1]; decide)
    exact ⟨h0, by rw [e]; exact h1, by rw [e]; exact h2, hk _ _ _ _ _ _ (sh_sI hR hb _) h3⟩
  | lastore =>
    refine ro_pJ_mono (fun x st h => ro_pI_mono (fun i st h => ro_pR_mono (fun c st h => ?_) h) h) h
    obtain ⟨h0, h1, h2, h3⟩ := h
    obtain ⟨e, hb⟩ := sh_kd hR (c := c) (by rw [h1]; decide)
    exact ⟨h0, by rw [e]; exact h1, by rw [e]; exact h2, hk _ _ _ _ _ _ (sh_sJ hR hb _) h3⟩
  | aastore =>
    refine ro_pR_mono (fun x st h => ro_pI_mono (fun i st h => ro_pR_mono (fun c st h => ?_) h) h) h
    obtain ⟨g0, g1, h0, h1, h2, h3⟩ := h
    obtain ⟨e, hb⟩ := sh_kd hR (c := c) (by rw [h1]; decide)
    obtain ⟨e2, -⟩ := sh_kd hR (c := x) (by rw [g1]; decide)
    exact ⟨g0, by rw [e2]; exact g1, h0, by rw [e]; exact h1, by rw [e]; exact h2, hk _ _ _ _ _ _ (sh_sR hR hb _) h3⟩
  | arraylength =>
    refine ro_pR_mono (fun c st h => ?_) h
    refine ⟨fun z => ⟨(h.1 z).1, K (h.1 z).2⟩, fun z => ?_⟩
    obtain ⟨h1, h2, h3, h4⟩ := h.2 z
    obtain ⟨e, -⟩ := sh_kd hR (c := c) (by omega)
    rw [e]
    exact ⟨h1, h2, h3, K h4⟩
  | checkcast _ =>
    refine ro_pR_mono (fun c st h => ?_) h
    obtain ⟨h0, h1, h2⟩ := h
    obtain ⟨e, -⟩ := sh_kd hR (c := c) (by rw [h1]; decide)
    exact ⟨h0, by rw [e]; exact h1, K h2⟩
  | new _ => exact sh_mk hmx Nat.one_pos h
  | newarray _ => exact ro_pI_mono (fun _ _ h => ⟨h.1, h.2.1, h.2.2.1, sh_mk hmx Nat.one_pos h.2.2.2⟩) h
  | anewarray _ => exact ro_pI_mono (fun _ _ h => ⟨h.1, h.2.1, h.2.2.1, sh_mk hmx Nat.one_pos h.2.2.2⟩) h
  | multianewarray _ _ => exact ro_pI_mono (fun _ _ h => ro_pI_mono (fun _ _ h => ⟨h.1, h.2.1, h.2.2.1, h.2.2.2.1, h.2.2.2.2.1, h.2.2.2.2.2.1, sh_mk hmx (by omega) h.2.2.2.2.2.2⟩) h) h
  | invokevirtual _ =>
    by_cases hb7 : b = 7
    · subst hb7
      refine ro_pR_mono (fun c st h => ?_) h
      have := h.2.2.2.1
      omega
    · simp only [ro_step] at h ⊢
      simp only [ro_okL] at hok
      simp only [Bool.and_eq_true, Bool.not_eq_true', beq_iff_eq] at hok
      refine ⟨h.1, sh_cv hmx (fun q e => ?_) hc hR hk h.2⟩
      cases e
      have hy : a < 206 := by
        obtain ⟨-, h2⟩ := h.2
        obtain ⟨c, r, -, h3⟩ := ro_pR_inv h2
        exact hcy _ _ _ _ h3.2.2.2.2
      have := ro_own13 a hy hok.2
      omega
  | invokespecial _ =>
    match b, h with
    | 0, h => exact sh_cv hmx (fun q e => by cases e) hc hR hk h
    | 1, h => exact sh_cv hmx (fun q e => by cases e) hc hR hk h
    | 2, h => exact ro_pR_mono (fun _ _ h => ⟨h.1, K h.2⟩) h
    | m + 3, h => exact sh_cv hmx (fun q e => by cases e) hc hR hk h
  | invokestatic _ =>
    match b, h with
    | 0, h => exact sh_csm hmx hc hR hk h
    | 1, h => exact h.elim
    | 2, h => exact h.elim
    | 3, h => exact sh_math (fun _ _ _ _ h => K h) h
    | 4, h => exact sh_ac hR hk h
    | 5, h => exact ro_pD_mono (fun _ _ h => ⟨h.1, h.2.1, K h.2.2⟩) h
    | m + 6, h => exact h.elim
  | _ => exact h.elim
end SHARE
theorem sh_cwp (X : ro_Sx) (n : Nat) : ∀ d, sh_cl n (ro_cwp X d) := by
  intro d
  induction d with
  | zero => intro y as F G M p _ _ h; exact h
  | succ d ih =>
    intro y as F G M p hl hR h
    refine ⟨h.1, h.2.1, ?_⟩
    have hw := h.2.2
    refine hw (fun pc lv st G cs => ∀ M, sh_R n F G M → ro_wp (ro_cwp X d) X y (fun v M2 => ∃ G2, p v G2 ∧ sh_R n F G2 M2) pc lv st M cs) (fun pc lv st G cs h1 M hR => ro_wp_one ?_) M hR
    unfold ro_one at h1 ⊢
    split at h1
    · exact h1
    · rename_i e he
      obtain ⟨m, -, -, hok⟩ := ro_ix_ok (by have := h.2.1; omega) he
      refine ⟨fun z => ?_, fun z => sh_step hl hok ⟨ro_cwp_clm X d, ih⟩ (fun y as M p h => ro_cwp_lt h) hR (fun pc lv st G M cs hR h => h M hR) (h1.2 z)⟩
      have h2 := h1.1 z
      refine ⟨h2.1, h2.2.1, ?_⟩
      have h4 := h2.2.2
      split at h4 <;> first | exact ⟨h4.1, _, h4.2, hR⟩ | exact h4.elim
