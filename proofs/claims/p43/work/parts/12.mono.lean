/-! the small machine: what goes on may be weakened; one step; what a call says -/
theorem ro_pI_mono {st : List Value} {f f2 : Int32 → List Value → Prop} (hf : ∀ x r, f x r → f2 x r) (h : ro_pI st f) : ro_pI st f2 := by
  unfold ro_pI at h ⊢
  split at h <;> first | exact hf _ _ h | exact h.elim
theorem ro_pJ_mono {st : List Value} {f f2 : Int64 → List Value → Prop} (hf : ∀ x r, f x r → f2 x r) (h : ro_pJ st f) : ro_pJ st f2 := by
  unfold ro_pJ at h ⊢
  split at h <;> first | exact hf _ _ h | exact h.elim
theorem ro_pR_mono {st : List Value} {f f2 : Nat → List Value → Prop} (hf : ∀ x r, f x r → f2 x r) (h : ro_pR st f) : ro_pR st f2 := by
  unfold ro_pR at h ⊢
  split at h <;> first | exact hf _ _ h | exact h.elim
theorem ro_pQ_mono {st : List Value} {f f2 : Value → List Value → Prop} (hf : ∀ x r, f x r → f2 x r) (h : ro_pQ st f) : ro_pQ st f2 := by
  unfold ro_pQ at h ⊢
  split at h <;> first | exact hf _ _ h | exact h.elim
theorem ro_pV_mono {st : List Value} {f f2 : Value → List Value → Prop} (hf : ∀ x r, f x r → f2 x r) (h : ro_pV st f) : ro_pV st f2 := by
  unfold ro_pV at h ⊢
  split at h <;> first | exact hf _ _ h | exact h.elim
theorem ro_pD_mono {st : List Value} {f f2 : UInt64 → List Value → Prop} (hf : ∀ x r, f x r → f2 x r) (h : ro_pD st f) : ro_pD st f2 := by
  unfold ro_pD at h ⊢
  split at h <;> first | exact hf _ _ h | exact h.elim
theorem ro_lD_mono {v : Option Value} {f f2 : UInt64 → Prop} (hf : ∀ x, f x → f2 x) (h : ro_lD v f) : ro_lD v f2 := by
  unfold ro_lD at h ⊢
  split at h <;> first | exact hf _ h | exact h.elim
theorem ro_kx_mono {own x : Nat} {f f2 : UInt64 → Prop} (hf : ∀ x, f x → f2 x) (h : ro_kx own x f) : ro_kx own x f2 := by
  unfold ro_kx at h ⊢
  split at h <;> first | exact hf _ h | exact h.elim
theorem ro_lI_mono {v : Option Value} {f f2 : Int32 → Prop} (hf : ∀ x, f x → f2 x) (h : ro_lI v f) : ro_lI v f2 := by
  unfold ro_lI at h ⊢
  split at h <;> first | exact hf _ h | exact h.elim
theorem ro_lJ_mono {v : Option Value} {f f2 : Int64 → Prop} (hf : ∀ x, f x → f2 x) (h : ro_lJ v f) : ro_lJ v f2 := by
  unfold ro_lJ at h ⊢
  split at h <;> first | exact hf _ h | exact h.elim
theorem ro_lQ_mono {v : Option Value} {f f2 : Value → Prop} (hf : ∀ x, f x → f2 x) (h : ro_lQ v f) : ro_lQ v f2 := by
  unfold ro_lQ at h ⊢
  split at h <;> first | exact hf _ h | exact h.elim
theorem ro_ki_mono {own x : Nat} {f f2 : Int32 → Prop} (hf : ∀ x, f x → f2 x) (h : ro_ki own x f) : ro_ki own x f2 := by
  unfold ro_ki at h ⊢
  split at h <;> first | exact hf _ h | exact h.elim
theorem ro_kj_mono {own x : Nat} {f f2 : Int64 → Prop} (hf : ∀ x, f x → f2 x) (h : ro_kj own x f) : ro_kj own x f2 := by
  unfold ro_kj at h ⊢
  split at h <;> first | exact hf _ h | exact h.elim
theorem ro_if_mono {c : Jvm.ClassFile.Cond} {x y : Int32} {t f t2 f2 : Prop} (ht : t → t2) (hf : f → f2) (h : ro_if c x y t f) : ro_if c x y t2 f2 := by
  cases c <;> exact ⟨fun q => ht (h.1 q), fun q => hf (h.2 q)⟩
theorem ro_sw_mono {lo hi d : Int} {offs : Array Int} {pc : Nat} {x : Int32} {f f2 : Nat → Prop} (hf : ∀ t, f t → f2 t) (h : ro_sw lo hi d offs pc x f) : ro_sw lo hi d offs pc x f2 := by
  refine ⟨fun q => ⟨(h.1 q).1, hf _ (h.1 q).2⟩, fun q => ?_⟩
  have h2 := h.2 q
  split at h2
  · exact ⟨h2.1, hf _ h2.2⟩
  · exact h2.elim
theorem ro_pf_mono {M : ro_Mm} {t : FieldType} {c j : Nat} {v : Value} {f f2 : ro_Mm → Prop} (hf : ∀ M, f M → f2 M) (h : ro_pf M t c j v f) : ro_pf M t c j v f2 := by
  unfold ro_pf at h ⊢
  split at h <;> first | exact hf _ h | exact ⟨h.1, hf _ h.2⟩ | exact h.elim
theorem ro_rd_mono {X : ro_Sx} {M : ro_Mm} {q c : Nat} {i : Int32} {f f2 : Int32 → Prop} (hf : ∀ v, f v → f2 v) (h : ro_rd X M q c i f) : ro_rd X M q c i f2 :=
  ⟨fun z => ⟨(h.1 z).1, (h.1 z).2.1, hf _ (h.1 z).2.2⟩, fun z => ⟨(h.2 z).1, (h.2 z).2.1, hf _ (h.2 z).2.2⟩⟩
theorem ro_al_mono {X : ro_Sx} {M : ro_Mm} {c : Nat} {f f2 : Int32 → Prop} (hf : ∀ v, f v → f2 v) (h : ro_al X M c f) : ro_al X M c f2 :=
  ⟨fun z => ⟨(h.1 z).1, hf _ (h.1 z).2⟩, fun z => ⟨(h.2 z).1, (h.2 z).2.1, (h.2 z).2.2.1, hf _ (h.2 z).2.2.2⟩⟩
/-- calls may be weakened -/
def ro_clm (cl cl2 : Nat → List Value → ro_Mm → ro_Po → Prop) : Prop := ∀ y as M (p q : ro_Po), (∀ v M, p v M → q v M) → cl y as M p → cl2 y as M q
section ROM
variable {cl cl2 : Nat → List Value → ro_Mm → ro_Po → Prop} {X : ro_Sx} {mx : Nat × Nat} {own nL : Nat} {ini : Bool} {pc : Nat} {lv : ro_Lv} {st : List Value} {M : ro_Mm} {cs : Nat × Nat} {k k2 : ro_K}
theorem ro_cv_mono {kd : Option Nat} {y : Nat} (hc : ro_clm cl cl2) (hk : ∀ pc lv st M cs, k pc lv st M cs → k2 pc lv st M cs) (h : ro_cv kd cl mx y pc lv st M cs k) : ro_cv kd cl2 mx y pc lv st M cs k2 :=
  ⟨h.1, ro_pR_mono (fun _ _ h => ⟨h.1, h.2.1, h.2.2.1, h.2.2.2.1, hc _ _ _ _ _ (fun _ _ h => hk _ _ _ _ _ h) h.2.2.2.2⟩) h.2⟩
theorem ro_csm_mono {y : Nat} (hc : ro_clm cl cl2) (hk : ∀ pc lv st M cs, k pc lv st M cs → k2 pc lv st M cs) (h : ro_csm cl mx y pc lv st M cs k) : ro_csm cl2 mx y pc lv st M cs k2 :=
  ⟨h.1, h.2.1, h.2.2.1, h.2.2.2.1, hc _ _ _ _ _ (fun _ _ h => hk _ _ _ _ _ h) h.2.2.2.2⟩
theorem ro_math_mono {a : Nat} (hk : ∀ pc lv st M cs, k pc lv st M cs → k2 pc lv st M cs) (h : ro_math a pc lv st M cs k) : ro_math a pc lv st M cs k2 := by
  match a, h with
  | 0, h => exact ro_pI_mono (fun _ _ h => ro_pI_mono (fun _ _ h => ⟨h.1, hk _ _ _ _ _ h.2⟩) h) h
  | 1, h => exact ro_pI_mono (fun _ _ h => ro_pI_mono (fun _ _ h => ⟨h.1, hk _ _ _ _ _ h.2⟩) h) h
  | 2, h => exact ro_pJ_mono (fun _ _ h => ro_pJ_mono (fun _ _ h => ⟨h.1, hk _ _ _ _ _ h.2⟩) h) h
  | _ + 3, h => exact h.elim
theorem ro_ac_mono (hk : ∀ pc lv st M cs, k pc lv st M cs → k2 pc lv st M cs) (h : ro_ac pc lv st M cs k) : ro_ac pc lv st M cs k2 :=
  ro_pI_mono (fun _ _ h => ro_pI_mono (fun _ _ h => ro_pR_mono (fun _ _ h => ro_pI_mono (fun _ _ h => ro_pR_mono (fun _ _ h =>
    ⟨h.1, h.2.1, h.2.2.1, h.2.2.2.1, h.2.2.2.2.1, h.2.2.2.2.2.1, h.2.2.2.2.2.2.1, h.2.2.2.2.2.2.2.1, h.2.2.2.2.2.2.2.2.elim (fun h => Or.inl ⟨h.1, h.2.1, hk _ _ _ _ _ h.2.2⟩) (fun h => Or.inr ⟨h.1, h.2.1, hk _ _ _ _ _ h.2.2⟩)⟩) h) h) h) h) h
set_option maxHeartbeats 4000000 in
theorem ro_step_mono {i : Instr} {a b : Nat} (hc : ro_clm cl cl2) (hk : ∀ pc lv st M cs, k pc lv st M cs → k2 pc lv st M cs) (h : ro_step cl X mx own nL ini pc lv st M cs k i a b) : ro_step cl2 X mx own nL ini pc lv st M cs k2 i a b := by
  cases i with
  | iconst _ => exact hk _ _ _ _ _ h
  | bipush _ => exact hk _ _ _ _ _ h
  | sipush _ => exact hk _ _ _ _ _ h
  | lconst _ => exact hk _ _ _ _ _ h
  | aconst_null => exact hk _ _ _ _ _ h
  | getstatic _ => exact hk _ _ _ _ _ h
  | ldc _ =>
    simp only [ro_step] at h ⊢
    exact ro_ki_mono (fun _ h => hk _ _ _ _ _ h) h
  | ldc_w _ =>
    simp only [ro_step] at h ⊢
    exact ro_ki_mono (fun _ h => hk _ _ _ _ _ h) h
  | ldc2_w _ =>
    match a, h with
    | 0, h =>
      simp only [ro_step] at h ⊢
      exact ro_kj_mono (fun _ h => hk _ _ _ _ _ h) h
    | a + 1, h =>
      simp only [ro_step] at h ⊢
      exact ro_kx_mono (fun _ h => hk _ _ _ _ _ h) h
  | dconst _ => exact hk _ _ _ _ _ h
  | dload_n _ => exact ro_lD_mono (fun _ h => hk _ _ _ _ _ h) h
  | dload _ => exact ro_lD_mono (fun _ h => hk _ _ _ _ _ h) h
  | dstore_n _ => exact ro_pD_mono (fun _ _ h => ⟨h.1, (fun h => hk _ _ _ _ _ h) h.2⟩) h
  | dstore _ => exact ro_pD_mono (fun _ _ h => ⟨h.1, (fun h => hk _ _ _ _ _ h) h.2⟩) h
  | dadd => exact ro_pD_mono (fun _ _ h => ro_pD_mono (fun _ _ h => ⟨h.1, (fun h => hk _ _ _ _ _ h) h.2⟩) h) h
  | dsub => exact ro_pD_mono (fun _ _ h => ro_pD_mono (fun _ _ h => ⟨h.1, (fun h => hk _ _ _ _ _ h) h.2⟩) h) h
  | dmul => exact ro_pD_mono (fun _ _ h => ro_pD_mono (fun _ _ h => ⟨h.1, (fun h => hk _ _ _ _ _ h) h.2⟩) h) h
  | ddiv => exact ro_pD_mono (fun _ _ h => ro_pD_mono (fun _ _ h => ⟨h.1, (fun h => hk _ _ _ _ _ h) h.2⟩) h) h
  | dcmp _ => exact ro_pD_mono (fun _ _ h => ro_pD_mono (fun _ _ h => hk _ _ _ _ _ h) h) h
  | i2d => exact ro_pI_mono (fun _ _ h => hk _ _ _ _ _ h) h
  | l2d => exact ro_pJ_mono (fun _ _ h => hk _ _ _ _ _ h) h
  | checkcast _ => exact ro_pR_mono (fun _ _ h => ⟨h.1, h.2.1, (fun h => hk _ _ _ _ _ h) h.2.2⟩) h
  | iload_n _ => exact ro_lI_mono (fun _ h => hk _ _ _ _ _ h) h
  | iload _ => exact ro_lI_mono (fun _ h => hk _ _ _ _ _ h) h
  | lload_n _ => exact ro_lJ_mono (fun _ h => hk _ _ _ _ _ h) h
  | lload _ => exact ro_lJ_mono (fun _ h => hk _ _ _ _ _ h) h
  | aload_n _ =>
    simp only [ro_step] at h ⊢
    exact ro_lQ_mono (fun _ h => hk _ _ _ _ _ h) h
  | aload _ =>
    simp only [ro_step] at h ⊢
    exact ro_lQ_mono (fun _ h => hk _ _ _ _ _ h) h
  | istore_n _ => exact ro_pI_mono (fun _ _ h => ⟨h.1, (fun h => hk _ _ _ _ _ h) h.2⟩) h
  | istore _ => exact ro_pI_mono (fun _ _ h => ⟨h.1, (fun h => hk _ _ _ _ _ h) h.2⟩) h
  | lstore_n _ => exact ro_pJ_mono (fun _ _ h => ⟨h.1, (fun h => hk _ _ _ _ _ h) h.2⟩) h
  | lstore _ => exact ro_pJ_mono (fun _ _ h => ⟨h.1, (fun h => hk _ _ _ _ _ h) h.2⟩) h
  | astore_n _ =>
    simp only [ro_step] at h ⊢
    exact ro_pQ_mono (fun _ _ h => ⟨h.1, (fun h => hk _ _ _ _ _ h) h.2⟩) h
  | astore _ =>
    simp only [ro_step] at h ⊢
    exact ro_pQ_mono (fun _ _ h => ⟨h.1, (fun h => hk _ _ _ _ _ h) h.2⟩) h
  | iinc _ _ => exact ro_lI_mono (fun _ h => ⟨h.1, (fun h => hk _ _ _ _ _ h) h.2⟩) h
  | iadd => exact ro_pI_mono (fun _ _ h => ro_pI_mono (fun _ _ h => hk _ _ _ _ _ h) h) h
  | isub => exact ro_pI_mono (fun _ _ h => ro_pI_mono (fun _ _ h => hk _ _ _ _ _ h) h) h
  | imul => exact ro_pI_mono (fun _ _ h => ro_pI_mono (fun _ _ h => hk _ _ _ _ _ h) h) h
  | iand => exact ro_pI_mono (fun _ _ h => ro_pI_mono (fun _ _ h => hk _ _ _ _ _ h) h) h
  | ior => exact ro_pI_mono (fun _ _ h => ro_pI_mono (fun _ _ h => hk _ _ _ _ _ h) h) h
  | ixor => exact ro_pI_mono (fun _ _ h => ro_pI_mono (fun _ _ h => hk _ _ _ _ _ h) h) h
  | ishl => exact ro_pI_mono (fun _ _ h => ro_pI_mono (fun _ _ h => hk _ _ _ _ _ h) h) h
  | ishr => exact ro_pI_mono (fun _ _ h => ro_pI_mono (fun _ _ h => hk _ _ _ _ _ h) h) h
  | iushr => exact ro_pI_mono (fun _ _ h => ro_pI_mono (fun _ _ h => hk _ _ _ _ _ h) h) h
  | idiv => exact ro_pI_mono (fun _ _ h => ro_pI_mono (fun _ _ h => ⟨h.1, (fun h => hk _ _ _ _ _ h) h.2⟩) h) h
  | irem => exact ro_pI_mono (fun _ _ h => ro_pI_mono (fun _ _ h => ⟨h.1, (fun h => hk _ _ _ _ _ h) h.2⟩) h) h
  | ineg => exact ro_pI_mono (fun _ _ h => hk _ _ _ _ _ h) h
  | i2l => exact ro_pI_mono (fun _ _ h => hk _ _ _ _ _ h) h
  | i2b => exact ro_pI_mono (fun _ _ h => hk _ _ _ _ _ h) h
  | i2s => exact ro_pI_mono (fun _ _ h => hk _ _ _ _ _ h) h
  | l2i => exact ro_pJ_mono (fun _ _ h => hk _ _ _ _ _ h) h
  | ladd => exact ro_pJ_mono (fun _ _ h => ro_pJ_mono (fun _ _ h => hk _ _ _ _ _ h) h) h
  | lmul => exact ro_pJ_mono (fun _ _ h => ro_pJ_mono (fun _ _ h => hk _ _ _ _ _ h) h) h
  | land => exact ro_pJ_mono (fun _ _ h => ro_pJ_mono (fun _ _ h => hk _ _ _ _ _ h) h) h
  | lor => exact ro_pJ_mono (fun _ _ h => ro_pJ_mono (fun _ _ h => hk _ _ _ _ _ h) h) h
  | lxor => exact ro_pJ_mono (fun _ _ h => ro_pJ_mono (fun _ _ h => hk _ _ _ _ _ h) h) h
  | lcmp => exact ro_pJ_mono (fun _ _ h => ro_pJ_mono (fun _ _ h => hk _ _ _ _ _ h) h) h
  | ldiv => exact ro_pJ_mono (fun _ _ h => ro_pJ_mono (fun _ _ h => ⟨h.1, (fun h => hk _ _ _ _ _ h) h.2⟩) h) h
  | lrem => exact ro_pJ_mono (fun _ _ h => ro_pJ_mono (fun _ _ h => ⟨h.1, (fun h => hk _ _ _ _ _ h) h.2⟩) h) h
  | lshl => exact ro_pI_mono (fun _ _ h => ro_pJ_mono (fun _ _ h => hk _ _ _ _ _ h) h) h
  | lshr => exact ro_pI_mono (fun _ _ h => ro_pJ_mono (fun _ _ h => hk _ _ _ _ _ h) h) h
  | lushr => exact ro_pI_mono (fun _ _ h => ro_pJ_mono (fun _ _ h => hk _ _ _ _ _ h) h) h
  | dup => exact ro_pV_mono (fun _ _ h => ⟨h.1, (fun h => hk _ _ _ _ _ h) h.2⟩) h
  | pop => exact ro_pV_mono (fun _ _ h => ⟨h.1, (fun h => hk _ _ _ _ _ h) h.2⟩) h
  | dup2 => exact ro_pV_mono (fun _ _ h => ro_pV_mono (fun _ _ h => ⟨h.1, h.2.1, (fun h => hk _ _ _ _ _ h) h.2.2⟩) h) h
  | goto _ => exact ⟨h.1, (fun h => hk _ _ _ _ _ h) h.2⟩
  | ifCond _ _ => exact ro_pI_mono (fun _ _ h => ⟨h.1, (fun h => ro_if_mono (fun h => hk _ _ _ _ _ h) (fun h => hk _ _ _ _ _ h) h) h.2⟩) h
  | if_icmp _ _ => exact ro_pI_mono (fun _ _ h => ro_pI_mono (fun _ _ h => ⟨h.1, (fun h => ro_if_mono (fun h => hk _ _ _ _ _ h) (fun h => hk _ _ _ _ _ h) h) h.2⟩) h) h
  | ifnull _ =>
    simp only [ro_step] at h ⊢
    exact ro_pQ_mono (fun _ _ h => ⟨h.1, (fun h => ⟨fun q => (fun h => hk _ _ _ _ _ h) (h.1 q), fun q => (fun h => hk _ _ _ _ _ h) (h.2 q)⟩) h.2⟩) h
  | ifnonnull _ =>
    simp only [ro_step] at h ⊢
    exact ro_pQ_mono (fun _ _ h => ⟨h.1, (fun h => ⟨fun q => (fun h => hk _ _ _ _ _ h) (h.1 q), fun q => (fun h => hk _ _ _ _ _ h) (h.2 q)⟩) h.2⟩) h
  | tableswitch _ _ _ _ => exact ro_pI_mono (fun _ _ h => ro_sw_mono (fun _ h => hk _ _ _ _ _ h) h) h
  | lookupswitch _ _ => exact ro_pI_mono (fun _ _ h => ⟨h.1, (fun h => ⟨h.1, (fun h => hk _ _ _ _ _ h) h.2⟩) h.2⟩) h
  | getfield _ => exact ro_pR_mono (fun _ _ h => ⟨h.1, h.2.1, (fun h => hk _ _ _ _ _ h) h.2.2⟩) h
  | putfield _ => exact ro_pV_mono (fun _ _ h => ro_pR_mono (fun _ _ h => ⟨h.1, h.2.1, h.2.2.1, (fun h => ro_pf_mono (fun _ h => hk _ _ _ _ _ h) h) h.2.2.2⟩) h) h
  | iaload => exact ro_pI_mono (fun _ _ h => ro_pR_mono (fun _ _ h => ro_rd_mono (fun _ h => hk _ _ _ _ _ h) h) h) h
  | laload => exact ro_pI_mono (fun _ _ h => ro_pR_mono (fun _ _ h => ⟨h.1, h.2.1, h.2.2.1, (fun h => hk _ _ _ _ _ h) h.2.2.2⟩) h) h
  | aaload => exact ro_pI_mono (fun _ _ h => ro_pR_mono (fun _ _ h => ⟨h.1, h.2.1, h.2.2.1, (fun h => ro_lQ_mono (fun _ h => hk _ _ _ _ _ h) h) h.2.2.2⟩) h) h
  | iastore => exact ro_pI_mono (fun _ _ h => ro_pI_mono (fun _ _ h => ro_pR_mono (fun _ _ h => ⟨h.1, h.2.1, h.2.2.1, (fun h => hk _ _ _ _ _ h) h.2.2.2⟩) h) h) h
  | lastore => exact ro_pJ_mono (fun _ _ h => ro_pI_mono (fun _ _ h => ro_pR_mono (fun _ _ h => ⟨h.1, h.2.1, h.2.2.1, (fun h => hk _ _ _ _ _ h) h.2.2.2⟩) h) h) h
  | aastore => exact ro_pR_mono (fun _ _ h => ro_pI_mono (fun _ _ h => ro_pR_mono (fun _ _ h => ⟨h.1, h.2.1, h.2.2.1, h.2.2.2.1, h.2.2.2.2.1, (fun h => hk _ _ _ _ _ h) h.2.2.2.2.2⟩) h) h) h
  | arraylength => exact ro_pR_mono (fun _ _ h => ro_al_mono (fun _ h => hk _ _ _ _ _ h) h) h
  | new _ => exact ⟨h.1, h.2.1, (fun h => hk _ _ _ _ _ h) h.2.2⟩
  | newarray _ => exact ro_pI_mono (fun _ _ h => ⟨h.1, h.2.1, h.2.2.1, (fun h => ⟨h.1, h.2.1, (fun h => hk _ _ _ _ _ h) h.2.2⟩) h.2.2.2⟩) h
  | anewarray _ => exact ro_pI_mono (fun _ _ h => ⟨h.1, h.2.1, h.2.2.1, (fun h => ⟨h.1, h.2.1, (fun h => hk _ _ _ _ _ h) h.2.2⟩) h.2.2.2⟩) h
  | multianewarray _ _ => exact ro_pI_mono (fun _ _ h => ro_pI_mono (fun _ _ h => ⟨h.1, h.2.1, h.2.2.1, h.2.2.2.1, h.2.2.2.2.1, h.2.2.2.2.2.1, (fun h => ⟨h.1, h.2.1, (fun h => hk _ _ _ _ _ h) h.2.2⟩) h.2.2.2.2.2.2⟩) h) h
  | invokevirtual _ =>
    by_cases hb7 : b = 7
    · subst hb7
      exact ro_pR_mono (fun _ _ h => ⟨h.1, h.2.1, h.2.2.1, h.2.2.2.1, h.2.2.2.2.1, (fun h => hk _ _ _ _ _ h) h.2.2.2.2.2⟩) h
    · simp only [ro_step] at h ⊢
      exact ⟨h.1, ro_cv_mono hc hk h.2⟩
  | invokespecial _ =>
    match b, h with
    | 0, h => exact ro_cv_mono hc hk h
    | 1, h => exact ro_cv_mono hc hk h
    | 2, h => exact ro_pR_mono (fun _ _ h => ⟨h.1, hk _ _ _ _ _ h.2⟩) h
    | n + 3, h => exact ro_cv_mono hc hk h
  | invokestatic _ =>
    match b, h with
    | 0, h => exact ro_csm_mono hc hk h
    | 1, h => exact h.elim
    | 2, h => exact h.elim
    | 3, h => exact ro_math_mono hk h
    | 4, h => exact ro_ac_mono hk h
    | 5, h => exact ro_pD_mono (fun _ _ h => ⟨h.1, h.2.1, (fun h => hk _ _ _ _ _ h) h.2.2⟩) h
    | n + 6, h => exact h.elim
  | _ => exact h.elim
end ROM
theorem ro_end_mono {mx cs : Nat × Nat} {ret : Option FieldType} {st : List Value} {M : ro_Mm} {p q : ro_Po} {i : Instr} (hpq : ∀ v M, p v M → q v M) (h : ro_end mx cs ret st M p i) : ro_end mx cs ret st M q i := by
  refine ⟨h.1, h.2.1, ?_⟩
  have h := h.2.2
  split at h <;> first | exact ⟨h.1, hpq _ _ h.2⟩ | exact h.elim
theorem ro_one_mono {cl cl2 : Nat → List Value → ro_Mm → ro_Po → Prop} {X : ro_Sx} {y : Nat} {p q : ro_Po} {k k2 : ro_K} {pc : Nat} {lv : ro_Lv} {st : List Value} {M : ro_Mm} {cs : Nat × Nat} (hc : ro_clm cl cl2) (hpq : ∀ v M, p v M → q v M) (hk : ∀ pc lv st M cs, k pc lv st M cs → k2 pc lv st M cs) (h : ro_one cl X y p k pc lv st M cs) : ro_one cl2 X y q k2 pc lv st M cs := by
  unfold ro_one at h ⊢
  split at h
  · exact h
  · rename_i e1 he
    exact ⟨fun z => ro_end_mono hpq (h.1 z), fun z => ro_step_mono hc hk (h.2 z)⟩
theorem ro_wp_mono {cl cl2 : Nat → List Value → ro_Mm → ro_Po → Prop} {X : ro_Sx} {y : Nat} {p q : ro_Po} {pc : Nat} {lv : ro_Lv} {st : List Value} {M : ro_Mm} {cs : Nat × Nat} (hc : ro_clm cl cl2) (hpq : ∀ v M, p v M → q v M) (h : ro_wp cl X y p pc lv st M cs) : ro_wp cl2 X y q pc lv st M cs :=
  fun k hk => h k (fun pc lv st M cs h1 => hk pc lv st M cs (ro_one_mono hc hpq (fun _ _ _ _ _ h => h) h1))
theorem ro_cwp_clm (X : ro_Sx) : ∀ d, ro_clm (ro_cwp X d) (ro_cwp X d) := by
  intro d
  induction d with
  | zero => intro y as M p q _ h; exact h
  | succ d ih => intro y as M p q hpq h; exact ⟨h.1, h.2.1, ro_wp_mono ih hpq h.2.2⟩
theorem ro_cwp_up1 (X : ro_Sx) : ∀ d, ro_clm (ro_cwp X d) (ro_cwp X (d + 1)) := by
  intro d
  induction d with
  | zero => intro y as M p q _ h; exact h.elim
  | succ d ih => intro y as M p q hpq h; exact ⟨h.1, h.2.1, ro_wp_mono ih hpq h.2.2⟩
theorem ro_cwp_up {X : ro_Sx} {d e y : Nat} {as : List Value} {M : ro_Mm} {p q : ro_Po} (hde : d ≤ e) (hpq : ∀ v M, p v M → q v M) (h : ro_cwp X d y as M p) : ro_cwp X e y as M q := by
  obtain ⟨k, rfl⟩ : ∃ k, e = d + k := ⟨e - d, by omega⟩
  induction k with
  | zero => exact ro_cwp_clm X d y as M p q hpq h
  | succ k ih => exact ro_cwp_up1 X (d + k) y as M q q (fun _ _ h => h) (ih (by omega))
/-- one step of a method -/
theorem ro_wp_one {X : ro_Sx} {d y : Nat} {post : ro_Po} {pc : Nat} {lv : ro_Lv} {st : List Value} {M : ro_Mm} {cs : Nat × Nat} (h : ro_one (ro_cwp X d) X y post (ro_wp (ro_cwp X d) X y post) pc lv st M cs) : ro_wp (ro_cwp X d) X y post pc lv st M cs :=
  fun k hk => hk pc lv st M cs (ro_one_mono (ro_cwp_clm X d) (fun _ _ h => h) (fun _ _ _ _ _ hw => hw k hk) h)
