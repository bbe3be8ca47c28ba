/-! references stay: a method that never writes one, nor any that it calls (by program, wip/whole/mk90.py) -/
section FRAME
/-- those that make something or turn the levels, and those above them -/
def fr_no : List Nat := [0, 1, 2, 3, 4, 5, 6, 7, 8, 9, 10, 11, 119, 120, 133, 193, 194, 195, 196, 197, 198, 199, 200, 201, 202, 203, 204, 205]
def fr_S (y : Nat) : Bool := !(fr_no.contains y)
def fr_tr (t : FieldType) : Bool := match t with
  | .object _ => false
  | .array _ => false
  | _ => true
def fr_w (i : Instr) (a b : Nat) : Bool := match i with
  | .putfield _ => fr_tr (ro_ty a b)
  | .aastore => false
  | .new _ => false
  | .newarray _ => false
  | .anewarray _ => false
  | .multianewarray _ _ => false
  | .invokevirtual _ => !(b == 7) && fr_S a
  | .invokespecial _ => b == 2 || fr_S a
  | .invokestatic _ => !(b == 0) || fr_S a
  | _ => true
theorem fr_all : (List.range 206).all (fun y => !(fr_S y) || (ro_cod y).all (fun e => fr_w e.2.1 e.2.2.1 e.2.2.2)) = true := by decide +kernel
theorem fr_ok {y pc : Nat} (hy : y < 206) (hS : fr_S y = true) {e : ro_In} (he : ro_ix y pc = some e) : fr_w e.2.1 e.2.2.1 e.2.2.2 = true := by
  have h := List.all_eq_true.mp fr_all y (List.mem_range.mpr hy)
  rw [hS] at h
  exact List.all_eq_true.mp h e (List.mem_of_find?_eq_some he)
def fr_c (cl : Nat → List Value → ro_Mm → ro_Po → Prop) : Prop := ∀ y as M (p : ro_Po), fr_S y = true → cl y as M p → cl y as M (fun v M2 => p v M2 ∧ M2.2.2.2 = M.2.2.2)
variable {cl : Nat → List Value → ro_Mm → ro_Po → Prop} {X : ro_Sx} {mx : Nat × Nat} {own nL : Nat} {ini : Bool} {pc : Nat} {lv : ro_Lv} {st : List Value} {M : ro_Mm} {cs : Nat × Nat} {k k2 : ro_K}
theorem fr_pf {t : FieldType} {c j : Nat} {v : Value} {f f2 : ro_Mm → Prop} (hw : fr_tr t = true) (hf : ∀ M2 : ro_Mm, M2.2.2.2 = M.2.2.2 → f M2 → f2 M2) (h : ro_pf M t c j v f) : ro_pf M t c j v f2 := by
  unfold ro_pf at h ⊢
  split at h <;> first | exact hf _ rfl h | exact ⟨h.1, hf _ rfl h.2⟩ | exact Bool.noConfusion hw | exact h.elim
theorem fr_cv {kd : Option Nat} {y : Nat} (hc : ro_clm cl cl ∧ fr_c cl) (hS : fr_S y = true) (hk : ∀ pc lv st (M2 : ro_Mm) cs, M2.2.2.2 = M.2.2.2 → k pc lv st M2 cs → k2 pc lv st M2 cs) (h : ro_cv kd cl mx y pc lv st M cs k) : ro_cv kd cl mx y pc lv st M cs k2 :=
  ⟨h.1, ro_pR_mono (fun _ _ h => ⟨h.1, h.2.1, h.2.2.1, h.2.2.2.1, hc.1 _ _ _ _ _ (fun _ _ h => hk _ _ _ _ _ h.2 h.1) (hc.2 _ _ _ _ hS h.2.2.2.2)⟩) h.2⟩
theorem fr_csm {y : Nat} (hc : ro_clm cl cl ∧ fr_c cl) (hS : fr_S y = true) (hk : ∀ pc lv st (M2 : ro_Mm) cs, M2.2.2.2 = M.2.2.2 → k pc lv st M2 cs → k2 pc lv st M2 cs) (h : ro_csm cl mx y pc lv st M cs k) : ro_csm cl mx y pc lv st M cs k2 :=
  ⟨h.1, h.2.1, h.2.2.1, h.2.2.2.1, hc.1 _ _ _ _ _ (fun _ _ h => hk _ _ _ _ _ h.2 h.1) (hc.2 _ _ _ _ hS h.2.2.2.2)⟩
theorem fr_math {a : Nat} (hk : ∀ pc lv st (M2 : ro_Mm) cs, M2.2.2.2 = M.2.2.2 → k pc lv st M2 cs → k2 pc lv st M2 cs) (h : ro_math a pc lv st M cs k) : ro_math a pc lv st M cs k2 := by
  match a, h with
  | 0, h => exact ro_pI_mono (fun _ _ h => ro_pI_mono (fun _ _ h => ⟨h.1, hk _ _ _ _ _ rfl h.2⟩) h) h
  | 1, h => exact ro_pI_mono (fun _ _ h => ro_pI_mono (fun _ _ h => ⟨h.1, hk _ _ _ _ _ rfl h.2⟩) h) h
  | 2, h => exact ro_pJ_mono (fun _ _ h => ro_pJ_mono (fun _ _ h => ⟨h.1, hk _ _ _ _ _ rfl h.2⟩) h) h
  | _ + 3, h => exact h.elim
theorem fr_ac (hk : ∀ pc lv st (M2 : ro_Mm) cs, M2.2.2.2 = M.2.2.2 → k pc lv st M2 cs → k2 pc lv st M2 cs) (h : ro_ac pc lv st M cs k) : ro_ac pc lv st M cs k2 :=
  ro_pI_mono (fun _ _ h => ro_pI_mono (fun _ _ h => ro_pR_mono (fun _ _ h => ro_pI_mono (fun _ _ h => ro_pR_mono (fun _ _ h =>
    ⟨h.1, h.2.1, h.2.2.1, h.2.2.2.1, h.2.2.2.2.1, h.2.2.2.2.2.1, h.2.2.2.2.2.2.1, h.2.2.2.2.2.2.2.1, h.2.2.2.2.2.2.2.2.elim (fun h => Or.inl ⟨h.1, h.2.1, hk _ _ _ _ _ rfl h.2.2⟩) (fun h => Or.inr ⟨h.1, h.2.1, hk _ _ _ _ _ rfl h.2.2⟩)⟩) h) h) h) h) h
set_option maxHeartbeats 4000000 in
theorem fr_step {i : Instr} {a b : Nat} (hw : fr_w i a b = true) (hc : ro_clm cl cl ∧ fr_c cl) (hk : ∀ pc lv st (M2 : ro_Mm) cs, M2.2.2.2 = M.2.2.2 → k pc lv st M2 cs → k2 pc lv st M2 cs) (h : ro_step cl X mx own nL ini pc lv st M cs k i a b) : ro_step cl X mx own nL ini pc lv st M cs k2 i a b := by
  cases i with
  | iconst _ => exact hk _ _ _ _ _ rfl h
  | bipush _ => exact hk _ _ _ _ _ rfl h
  | sipush _ => exact hk _ _ _ _ _ rfl h
  | lconst _ => exact hk _ _ _ _ _ rfl h
  | aconst_null => exact hk _ _ _ _ _ rfl h
  | getstatic _ => exact hk _ _ _ _ _ rfl h
  | ldc _ =>
    simp only [ro_step] at h ⊢
    exact ro_ki_mono (fun _ h => hk _ _ _ _ _ rfl h) h
  | ldc_w _ =>
    simp only [ro_step] at h ⊢
    exact ro_ki_mono (fun _ h => hk _ _ _ _ _ rfl h) h
  | ldc2_w _ =>
    match a, h with
    | 0, h =>
      simp only [ro_step] at h ⊢
      exact ro_kj_mono (fun _ h => hk _ _ _ _ _ rfl h) h
    | a + 1, h =>
      simp only [ro_step] at h ⊢
      exact ro_kx_mono (fun _ h => hk _ _ _ _ _ rfl h) h
  | dconst _ => exact hk _ _ _ _ _ rfl h
  | dload_n _ => exact ro_lD_mono (fun _ h => hk _ _ _ _ _ rfl h) h
  | dload _ => exact ro_lD_mono (fun _ h => hk _ _ _ _ _ rfl h) h
  | dstore_n _ => exact ro_pD_mono (fun _ _ h => ⟨h.1, (fun h => hk _ _ _ _ _ rfl h) h.2⟩) h
  | dstore _ => exact ro_pD_mono (fun _ _ h => ⟨h.1, (fun h => hk _ _ _ _ _ rfl h) h.2⟩) h
  | dadd => exact ro_pD_mono (fun _ _ h => ro_pD_mono (fun _ _ h => ⟨h.1, (fun h => hk _ _ _ _ _ rfl h) h.2⟩) h) h
  | dsub => exact ro_pD_mono (fun _ _ h => ro_pD_mono (fun _ _ h => ⟨h.1, (fun h => hk _ _ _ _ _ rfl h) h.2⟩) h) h
  | dmul => exact ro_pD_mono (fun _ _ h => ro_pD_mono (fun _ _ h => ⟨h.1, (fun h => hk _ _ _ _ _ rfl h) h.2⟩) h) h
  | ddiv => exact ro_pD_mono (fun _ _ h => ro_pD_mono (fun _ _ h => ⟨h.1, (fun h => hk _ _ _ _ _ rfl h) h.2⟩) h) h
  | dcmp _ => exact ro_pD_mono (fun _ _ h => ro_pD_mono (fun _ _ h => hk _ _ _ _ _ rfl h) h) h
  | i2d => exact ro_pI_mono (fun _ _ h => hk _ _ _ _ _ rfl h) h
  | l2d => exact ro_pJ_mono (fun _ _ h => hk _ _ _ _ _ rfl h) h
  | checkcast _ => exact ro_pR_mono (fun _ _ h => ⟨h.1, h.2.1, (fun h => hk _ _ _ _ _ rfl h) h.2.2⟩) h
  | iload_n _ => exact ro_lI_mono (fun _ h => hk _ _ _ _ _ rfl h) h
  | iload _ => exact ro_lI_mono (fun _ h => hk _ _ _ _ _ rfl h) h
  | lload_n _ => exact ro_lJ_mono (fun _ h => hk _ _ _ _ _ rfl h) h
  | lload _ => exact ro_lJ_mono (fun _ h => hk _ _ _ _ _ rfl h) h
  | aload_n _ =>
    simp only [ro_step] at h ⊢
    exact ro_lQ_mono (fun _ h => hk _ _ _ _ _ rfl h) h
  | aload _ =>
    simp only [ro_step] at h ⊢
    exact ro_lQ_mono (fun _ h => hk _ _ _ _ _ rfl h) h
  | istore_n _ => exact ro_pI_mono (fun _ _ h => ⟨h.1, (fun h => hk _ _ _ _ _ rfl h) h.2⟩) h
  | istore _ => exact ro_pI_mono (fun _ _ h => ⟨h.1, (fun h => hk _ _ _ _ _ rfl h) h.2⟩) h
  | lstore_n _ => exact ro_pJ_mono (fun _ _ h => ⟨h.1, (fun h => hk _ _ _ _ _ rfl h) h.2⟩) h
  | lstore _ => exact ro_pJ_mono (fun _ _ h => ⟨h.1, (fun h => hk _ _ _ _ _ rfl h) h.2⟩) h
  | astore_n _ =>
    simp only [ro_step] at h ⊢
    exact ro_pQ_mono (fun _ _ h => ⟨h.1, (fun h => hk _ _ _ _ _ rfl h) h.2⟩) h
  | astore _ =>
    simp only [ro_step] at h ⊢
    exact ro_pQ_mono (fun _ _ h => ⟨h.1, (fun h => hk _ _ _ _ _ rfl h) h.2⟩) h
  | iinc _ _ => exact ro_lI_mono (fun _ h => ⟨h.1, (fun h => hk _ _ _ _ _ rfl h) h.2⟩) h
  | iadd => exact ro_pI_mono (fun _ _ h => ro_pI_mono (fun _ _ h => hk _ _ _ _ _ rfl h) h) h
  | isub => exact ro_pI_mono (fun _ _ h => ro_pI_mono (fun _ _ h => hk _ _ _ _ _ rfl h) h) h
  | imul => exact ro_pI_mono (fun _ _ h => ro_pI_mono (fun _ _ h => hk _ _ _ _ _ rfl h) h) h
  | iand => exact ro_pI_mono (fun _ _ h => ro_pI_mono (fun _ _ h => hk _ _ _ _ _ rfl h) h) h
  | ior => exact ro_pI_mono (fun _ _ h => ro_pI_mono (fun _ _ h => hk _ _ _ _ _ rfl h) h) h
  | ixor => exact ro_pI_mono (fun _ _ h => ro_pI_mono (fun _ _ h => hk _ _ _ _ _ rfl h) h) h
  | ishl => exact ro_pI_mono (fun _ _ h => ro_pI_mono (fun _ _ h => hk _ _ _ _ _ rfl h) h) h
  | ishr => exact ro_pI_mono (fun _ _ h => ro_pI_mono (fun _ _ h => hk _ _ _ _ _ rfl h) h) h
  | iushr => exact ro_pI_mono (fun _ _ h => ro_pI_mono (fun _ _ h => hk _ _ _ _ _ rfl h) h) h
  | idiv => exact ro_pI_mono (fun _ _ h => ro_pI_mono (fun _ _ h => ⟨h.1, (fun h => hk _ _ _ _ _ rfl h) h.2⟩) h) h
  | irem => exact ro_pI_mono (fun _ _ h => ro_pI_mono (fun _ _ h => ⟨h.1, (fun h => hk _ _ _ _ _ rfl h) h.2⟩) h) h
  | ineg => exact ro_pI_mono (fun _ _ h => hk _ _ _ _ _ rfl h) h
  | i2l => exact ro_pI_mono (fun _ _ h => hk _ _ _ _ _ rfl h) h
  | i2b => exact ro_pI_mono (fun _ _ h => hk _ _ _ _ _ rfl h) h
  | i2s => exact ro_pI_mono (fun _ _ h => hk _ _ _ _ _ rfl h) h
  | l2i => exact ro_pJ_mono (fun _ _ h => hk _ _ _ _ _ rfl h) h
  | ladd => exact ro_pJ_mono (fun _ _ h => ro_pJ_mono (fun _ _ h => hk _ _ _ _ _ rfl h) h) h
  | lmul => exact ro_pJ_mono (fun _ _ h => ro_pJ_mono (fun _ _ h => hk _ _ _ _ _ rfl h) h) h
  | land => exact ro_pJ_mono (fun _ _ h => ro_pJ_mono (fun _ _ h => hk _ _ _ _ _ rfl h) h) h
  | lor => exact ro_pJ_mono (fun _ _ h => ro_pJ_mono (fun _ _ h => hk _ _ _ _ _ rfl h) h) h
  | lxor => exact ro_pJ_mono (fun _ _ h => ro_pJ_mono (fun _ _ h => hk _ _ _ _ _ rfl h) h) h
  | lcmp => exact ro_pJ_mono (fun _ _ h => ro_pJ_mono (fun _ _ h => hk _ _ _ _ _ rfl h) h) h
  | ldiv => exact ro_pJ_mono (fun _ _ h => ro_pJ_mono (fun _ _ h => ⟨h.1, (fun h => hk _ _ _ _ _ rfl h) h.2⟩) h) h
  | lrem => exact ro_pJ_mono (fun _ _ h => ro_pJ_mono (fun _ _ h => ⟨h.1, (fun h => hk _ _ _ _ _ rfl h) h.2⟩) h) h
  | lshl => exact ro_pI_mono (fun _ _ h => ro_pJ_mono (fun _ _ h => hk _ _ _ _ _ rfl h) h) h
  | lshr => exact ro_pI_mono (fun _ _ h => ro_pJ_mono (fun _ _ h => hk _ _ _ _ _ rfl h) h) h
  | lushr => exact ro_pI_mono (fun _ _ h => ro_pJ_mono (fun _ _ h => hk _ _ _ _ _ rfl h) h) h
  | dup => exact ro_pV_mono (fun _ _ h => ⟨h.1, (fun h => hk _ _ _ _ _ rfl h) h.2⟩) h
  | pop => exact ro_pV_mono (fun _ _ h => ⟨h.1, (fun h => hk _ _ _ _ _ rfl h) h.2⟩) h
  | dup2 => exact ro_pV_mono (fun _ _ h => ro_pV_mono (fun _ _ h => ⟨h.1, h.2.1, (fun h => hk _ _ _ _ _ rfl h) h.2.2⟩) h) h
  | goto _ => exact ⟨h.1, (fun h => hk _ _ _ _ _ rfl h) h.2⟩
  | ifCond _ _ => exact ro_pI_mono (fun _ _ h => ⟨h.1, (fun h => ro_if_mono (fun h => hk _ _ _ _ _ rfl h) (fun h => hk _ _ _ _ _ rfl h) h) h.2⟩) h
  | if_icmp _ _ => exact ro_pI_mono (fun _ _ h => ro_pI_mono (fun _ _ h => ⟨h.1, (fun h => ro_if_mono (fun h => hk _ _ _ _ _ rfl h) (fun h => hk _ _ _ _ _ rfl h) h) h.2⟩) h) h
  | ifnull _ =>
    simp only [ro_step] at h ⊢
    exact ro_pQ_mono (fun _ _ h => ⟨h.1, (fun h => ⟨fun q => (fun h => hk _ _ _ _ _ rfl h) (h.1 q), fun q => (fun h => hk _ _ _ _ _ rfl h) (h.2 q)⟩) h.2⟩) h
  | ifnonnull _ =>
    simp only [ro_step] at h ⊢
    exact ro_pQ_mono (fun _ _ h => ⟨h.1, (fun h => ⟨fun q => (fun h => hk _ _ _ _ _ rfl h) (h.1 q), fun q => (fun h => hk _ _ _ _ _ rfl h) (h.2 q)⟩) h.2⟩) h
  | tableswitch _ _ _ _ => exact ro_pI_mono (fun _ _ h => ro_sw_mono (fun _ h => hk _ _ _ _ _ rfl h) h) h
  | lookupswitch _ _ => exact ro_pI_mono (fun _ _ h => ⟨h.1, (fun h => ⟨h.1, (fun h => hk _ _ _ _ _ rfl h) h.2⟩) h.2⟩) h
  | getfield _ => exact ro_pR_mono (fun _ _ h => ⟨h.1, h.2.1, (fun h => hk _ _ _ _ _ rfl h) h.2.2⟩) h
  | putfield _ => exact ro_pV_mono (fun _ _ h => ro_pR_mono (fun _ _ h => ⟨h.1, h.2.1, h.2.2.1, fr_pf hw (fun _ e h => hk _ _ _ _ _ e h) h.2.2.2⟩) h) h
  | iaload => exact ro_pI_mono (fun _ _ h => ro_pR_mono (fun _ _ h => ro_rd_mono (fun _ h => hk _ _ _ _ _ rfl h) h) h) h
  | laload => exact ro_pI_mono (fun _ _ h => ro_pR_mono (fun _ _ h => ⟨h.1, h.2.1, h.2.2.1, (fun h => hk _ _ _ _ _ rfl h) h.2.2.2⟩) h) h
  | aaload => exact ro_pI_mono (fun _ _ h => ro_pR_mono (fun _ _ h => ⟨h.1, h.2.1, h.2.2.1, (fun h => ro_lQ_mono (fun _ h => hk _ _ _ _ _ rfl h) h) h.2.2.2⟩) h) h
  | iastore => exact ro_pI_mono (fun _ _ h => ro_pI_mono (fun _ _ h => ro_pR_mono (fun _ _ h => ⟨h.1, h.2.1, h.2.2.1, (fun h => hk _ _ _ (ro_sI M _ _ _) _ rfl h) h.2.2.2⟩) h) h) h
  | lastore => exact ro_pJ_mono (fun _ _ h => ro_pI_mono (fun _ _ h => ro_pR_mono (fun _ _ h => ⟨h.1, h.2.1, h.2.2.1, (fun h => hk _ _ _ (ro_sJ M _ _ _) _ rfl h) h.2.2.2⟩) h) h) h
  | aastore => exact Bool.noConfusion hw
  | arraylength => exact ro_pR_mono (fun _ _ h => ro_al_mono (fun _ h => hk _ _ _ _ _ rfl h) h) h
  | new _ => exact Bool.noConfusion hw
  | newarray _ => exact Bool.noConfusion hw
  | anewarray _ => exact Bool.noConfusion hw
  | multianewarray _ _ => exact Bool.noConfusion hw
  | invokevirtual _ =>
    have hw2 : (!(b == 7)) = true ∧ fr_S a = true := Bool.and_eq_true_iff.mp hw
    have hb7 : ¬ b = 7 := fun e => by rw [e] at hw2; exact absurd hw2.1 (by decide)
    simp only [ro_step] at h ⊢
    exact ⟨h.1, fr_cv hc hw2.2 hk h.2⟩
  | invokespecial _ =>
    match b, hw, h with
    | 0, hw, h => exact fr_cv hc hw hk h
    | 1, hw, h => exact fr_cv hc hw hk h
    | 2, _, h => exact ro_pR_mono (fun _ _ h => ⟨h.1, hk _ _ _ _ _ rfl h.2⟩) h
    | n + 3, hw, h => exact fr_cv hc hw hk h
  | invokestatic _ =>
    match b, hw, h with
    | 0, hw, h => exact fr_csm hc hw hk h
    | 1, _, h => exact h.elim
    | 2, _, h => exact h.elim
    | 3, _, h => exact fr_math hk h
    | 4, _, h => exact fr_ac hk h
    | 5, _, h => exact ro_pD_mono (fun _ _ h => ⟨h.1, h.2.1, (fun h => hk _ _ _ _ _ rfl h) h.2.2⟩) h
    | n + 6, _, h => exact h.elim
  | _ => exact h.elim
theorem fr_cwp (X : ro_Sx) : ∀ d, fr_c (ro_cwp X d) := by
  intro d
  induction d with
  | zero => intro y as M p _ h; exact h
  | succ d ih =>
    intro y as M p hS h
    refine ⟨h.1, h.2.1, ?_⟩
    have hw := h.2.2
    refine hw (fun pc lv st M2 cs => M2.2.2.2 = M.2.2.2 → ro_wp (ro_cwp X d) X y (fun v M2 => p v M2 ∧ M2.2.2.2 = M.2.2.2) pc lv st M2 cs) (fun pc lv st M2 cs h1 hM => ro_wp_one ?_) rfl
    unfold ro_one at h1 ⊢
    split at h1
    · exact h1
    · rename_i e he
      refine ⟨fun z => ?_, fun z => fr_step (fr_ok h.2.1 hS he) ⟨ro_cwp_clm X d, ih⟩ (fun pc lv st M3 cs e3 h3 => h3 (e3.trans hM)) (h1.2 z)⟩
      have h2 := h1.1 z
      refine ⟨h2.1, h2.2.1, ?_⟩
      have h4 := h2.2.2
      split at h4 <;> first | exact ⟨h4.1, h4.2, hM⟩ | exact h4.elim
/-- the two levels, either way round -/
def ro_lev (M : ro_Mm) : Prop := (M.2.2.2 62 8 = .ref 153 ∧ M.2.2.2 62 9 = .ref 158) ∨ (M.2.2.2 62 8 = .ref 158 ∧ M.2.2.2 62 9 = .ref 153)
def ro_Inv2 (M : ro_Mm) : Prop := ro_Inv M ∧ ro_lev M
theorem ro_lev_c {A B : ro_Mm} (h : ro_lev A) (e : B.2.2.2 = A.2.2.2) : ro_lev B := by unfold ro_lev at h ⊢; rw [e]; exact h
end FRAME

