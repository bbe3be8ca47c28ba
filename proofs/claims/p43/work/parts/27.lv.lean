/-! what is in the locals beyond what is asked for does no harm -/
def ro_nd : ro_Lv → Bool
  | [] => true
  | q :: r => r.all (fun p => !(p.1 == q.1)) && ro_nd r
def ro_sub (lv lv2 : ro_Lv) : Prop := ro_nd lv2 = true ∧ ∀ q, q ∈ lv → q ∈ lv2
theorem ro_nd_ld {lv : ro_Lv} (h : ro_nd lv = true) {j : Nat} {v : Value} (hm : (j, v) ∈ lv) : ro_ld lv j = some v := by
  induction lv with
  | nil => cases hm
  | cons q r ih =>
    have h1 : r.all (fun p => !(p.1 == q.1)) = true ∧ ro_nd r = true := by
      have h2 : (r.all (fun p => !(p.1 == q.1)) && ro_nd r) = true := h
      exact Bool.and_eq_true_iff.mp h2
    rcases List.mem_cons.mp hm with e | e
    · rw [← e]
      simp [ro_ld]
    · have h3 := List.all_eq_true.mp h1.1 _ e
      have h4 : ¬ q.1 = j := by
        intro e2
        rw [e2] at h3
        simp at h3
      have h5 := ih h1.2 e
      unfold ro_ld at h5 ⊢
      rw [List.find?_cons_of_neg (by simp [h4])]
      exact h5
theorem ro_ld_in {lv : ro_Lv} {j : Nat} {v : Value} (h : ro_ld lv j = some v) : (j, v) ∈ lv := by
  unfold ro_ld at h
  cases e : lv.find? (fun q => q.1 == j) with
  | none => rw [e] at h; cases h
  | some q =>
    rw [e] at h
    have h1 := List.mem_of_find?_eq_some e
    have h2 := List.find?_some e
    have h3 : q.1 = j := by simpa using h2
    have h4 : q.2 = v := by simpa using h
    rw [← h3, ← h4]
    exact h1
theorem ro_sub_ld {lv lv2 : ro_Lv} (h : ro_sub lv lv2) {j : Nat} {v : Value} (hl : ro_ld lv j = some v) : ro_ld lv2 j = some v := ro_nd_ld h.1 (h.2 _ (ro_ld_in hl))
theorem ro_nd_filter {lv : ro_Lv} (P : Nat × Value → Bool) (h : ro_nd lv = true) : ro_nd (lv.filter P) = true := by
  induction lv with
  | nil => rfl
  | cons q r ih =>
    have h1 : r.all (fun p => !(p.1 == q.1)) = true ∧ ro_nd r = true := by
      have h2 : (r.all (fun p => !(p.1 == q.1)) && ro_nd r) = true := h
      exact Bool.and_eq_true_iff.mp h2
    by_cases hp : P q = true
    · rw [List.filter_cons_of_pos hp]
      show ((r.filter P).all (fun p => !(p.1 == q.1)) && ro_nd (r.filter P)) = true
      rw [ih h1.2, Bool.and_true, List.all_eq_true]
      intro p hpm
      exact List.all_eq_true.mp h1.1 _ (List.mem_filter.mp hpm).1
    · rw [List.filter_cons_of_neg hp]
      exact ih h1.2
theorem ro_sub_s {lv lv2 : ro_Lv} {n : Nat} {v : Value} (P : Nat × Value → Bool) (hP : ∀ q, P q = true → ¬ q.1 = n) (h : ro_sub lv lv2) : ro_sub ((n, v) :: lv.filter P) ((n, v) :: lv2.filter P) := by
  refine ⟨?_, ?_⟩
  · show ((lv2.filter P).all (fun p => !(p.1 == n)) && ro_nd (lv2.filter P)) = true
    rw [ro_nd_filter P h.1, Bool.and_true, List.all_eq_true]
    intro p hpm
    have := hP p (List.mem_filter.mp hpm).2
    simp [this]
  · intro q hq
    rcases List.mem_cons.mp hq with e | e
    · rw [e]; exact List.mem_cons_self
    · have := List.mem_filter.mp e
      exact List.mem_cons_of_mem _ (List.mem_filter.mpr ⟨h.2 _ this.1, this.2⟩)
theorem ro_sub_s1 {lv lv2 : ro_Lv} {n : Nat} {v : Value} (h : ro_sub lv lv2) : ro_sub (ro_s1 lv n v) (ro_s1 lv2 n v) := by
  refine ro_sub_s _ ?_ h
  intro q hq
  simp at hq
  exact hq.1
theorem ro_sub_s2 {lv lv2 : ro_Lv} {n : Nat} {v : Value} (h : ro_sub lv lv2) : ro_sub (ro_s2 lv n v) (ro_s2 lv2 n v) := by
  refine ro_sub_s _ ?_ h
  intro q hq
  simp at hq
  exact hq.1
theorem ro_sub_n {lv2 : ro_Lv} (h : ro_nd lv2 = true) : ro_sub [] lv2 := ⟨h, fun q hq => by cases hq⟩
theorem ro_sub_c {lv lv2 : ro_Lv} {n : Nat} {v : Value} (h : ro_ld lv2 n = some v) (t : ro_sub lv lv2) : ro_sub ((n, v) :: lv) lv2 := by
  refine ⟨t.1, fun q hq => ?_⟩
  rcases List.mem_cons.mp hq with e | e
  · rw [e]; exact ro_ld_in h
  · exact t.2 _ e
theorem ro_lI_sub {lv lv2 : ro_Lv} {n : Nat} {f f2 : Int32 → Prop} (hs : ro_sub lv lv2) (hf : ∀ x, f x → f2 x) (h : ro_lI (ro_ld lv n) f) : ro_lI (ro_ld lv2 n) f2 := by
  cases e : ro_ld lv n with
  | none => rw [e] at h; exact h.elim
  | some v => rw [e] at h; rw [ro_sub_ld hs e]; exact ro_lI_mono hf h
theorem ro_lJ_sub {lv lv2 : ro_Lv} {n : Nat} {f f2 : Int64 → Prop} (hs : ro_sub lv lv2) (hf : ∀ x, f x → f2 x) (h : ro_lJ (ro_ld lv n) f) : ro_lJ (ro_ld lv2 n) f2 := by
  cases e : ro_ld lv n with
  | none => rw [e] at h; exact h.elim
  | some v => rw [e] at h; rw [ro_sub_ld hs e]; exact ro_lJ_mono hf h
theorem ro_lD_sub {lv lv2 : ro_Lv} {n : Nat} {f f2 : UInt64 → Prop} (hs : ro_sub lv lv2) (hf : ∀ x, f x → f2 x) (h : ro_lD (ro_ld lv n) f) : ro_lD (ro_ld lv2 n) f2 := by
  cases e : ro_ld lv n with
  | none => rw [e] at h; exact h.elim
  | some v => rw [e] at h; rw [ro_sub_ld hs e]; exact ro_lD_mono hf h
theorem ro_lQ_sub {lv lv2 : ro_Lv} {n : Nat} {f f2 : Value → Prop} (hs : ro_sub lv lv2) (hf : ∀ x, f x → f2 x) (h : ro_lQ (ro_ld lv n) f) : ro_lQ (ro_ld lv2 n) f2 := by
  cases e : ro_ld lv n with
  | none => rw [e] at h; exact h.elim
  | some v => rw [e] at h; rw [ro_sub_ld hs e]; exact ro_lQ_mono hf h
section LVM
variable {cl : Nat → List Value → ro_Mm → ro_Po → Prop} {X : ro_Sx} {mx : Nat × Nat} {own nL : Nat} {ini : Bool} {pc : Nat} {lv lv2 : ro_Lv} {st : List Value} {M : ro_Mm} {cs : Nat × Nat} {k k2 : ro_K}
set_option maxHeartbeats 4000000 in
theorem ro_step_lv {i : Instr} {a b : Nat} (hc : ro_clm cl cl) (hs : ro_sub lv lv2) (hk : ∀ pc lv lv2 st M cs, ro_sub lv lv2 → k pc lv st M cs → k2 pc lv2 st M cs) (h : ro_step cl X mx own nL ini pc lv st M cs k i a b) : ro_step cl X mx own nL ini pc lv2 st M cs k2 i a b := by
  have key : ∀ (h : ro_step cl X mx own nL ini pc lv st M cs (fun pc _ st M cs => k pc lv st M cs) i a b), ro_step cl X mx own nL ini pc lv st M cs (fun pc _ st M cs => k2 pc lv2 st M cs) i a b :=
    fun h => ro_step_mono (k := fun pc _ st M cs => k pc lv st M cs) (k2 := fun pc _ st M cs => k2 pc lv2 st M cs) hc (fun _ _ _ _ _ h => hk _ _ _ _ _ _ hs h) h
  cases i with
  | iload_n _ => exact ro_lI_sub hs (fun _ h => hk _ _ _ _ _ _ hs h) h
  | iload _ => exact ro_lI_sub hs (fun _ h => hk _ _ _ _ _ _ hs h) h
  | lload_n _ => exact ro_lJ_sub hs (fun _ h => hk _ _ _ _ _ _ hs h) h
  | lload _ => exact ro_lJ_sub hs (fun _ h => hk _ _ _ _ _ _ hs h) h
  | dload_n _ => exact ro_lD_sub hs (fun _ h => hk _ _ _ _ _ _ hs h) h
  | dload _ => exact ro_lD_sub hs (fun _ h => hk _ _ _ _ _ _ hs h) h
  | dstore_n _ => exact ro_pD_mono (fun _ _ h => ⟨h.1, hk _ _ _ _ _ _ (ro_sub_s2 hs) h.2⟩) h
  | dstore _ => exact ro_pD_mono (fun _ _ h => ⟨h.1, hk _ _ _ _ _ _ (ro_sub_s2 hs) h.2⟩) h
  | aload_n _ =>
    simp only [ro_step] at h ⊢
    exact ro_lQ_sub hs (fun _ h => hk _ _ _ _ _ _ hs h) h
  | aload _ =>
    simp only [ro_step] at h ⊢
    exact ro_lQ_sub hs (fun _ h => hk _ _ _ _ _ _ hs h) h
  | istore_n _ => exact ro_pI_mono (fun _ _ h => ⟨h.1, hk _ _ _ _ _ _ (ro_sub_s1 hs) h.2⟩) h
  | istore _ => exact ro_pI_mono (fun _ _ h => ⟨h.1, hk _ _ _ _ _ _ (ro_sub_s1 hs) h.2⟩) h
  | lstore_n _ => exact ro_pJ_mono (fun _ _ h => ⟨h.1, hk _ _ _ _ _ _ (ro_sub_s2 hs) h.2⟩) h
  | lstore _ => exact ro_pJ_mono (fun _ _ h => ⟨h.1, hk _ _ _ _ _ _ (ro_sub_s2 hs) h.2⟩) h
  | astore_n _ =>
    simp only [ro_step] at h ⊢
    exact ro_pQ_mono (fun _ _ h => ⟨h.1, hk _ _ _ _ _ _ (ro_sub_s1 hs) h.2⟩) h
  | astore _ =>
    simp only [ro_step] at h ⊢
    exact ro_pQ_mono (fun _ _ h => ⟨h.1, hk _ _ _ _ _ _ (ro_sub_s1 hs) h.2⟩) h
  | iinc _ _ => exact ro_lI_sub hs (fun _ h => ⟨h.1, hk _ _ _ _ _ _ (ro_sub_s1 hs) h.2⟩) h
  | _ => exact key h
end LVM
theorem ro_one_lv {cl : Nat → List Value → ro_Mm → ro_Po → Prop} {X : ro_Sx} {y : Nat} {p : ro_Po} {k k2 : ro_K} {pc : Nat} {lv lv2 : ro_Lv} {st : List Value} {M : ro_Mm} {cs : Nat × Nat} (hc : ro_clm cl cl) (hs : ro_sub lv lv2) (hk : ∀ pc lv lv2 st M cs, ro_sub lv lv2 → k pc lv st M cs → k2 pc lv2 st M cs) (h : ro_one cl X y p k pc lv st M cs) : ro_one cl X y p k2 pc lv2 st M cs := by
  unfold ro_one at h ⊢
  split at h
  · exact h
  · rename_i e1 he
    exact ⟨fun z => h.1 z, fun z => ro_step_lv hc hs hk (h.2 z)⟩
theorem ro_w_lv {X : ro_Sx} {d y : Nat} {post : ro_Po} {pc : Nat} {lv lv2 : ro_Lv} {st : List Value} {M : ro_Mm} {cs : Nat × Nat} (hs : ro_sub lv lv2) (h : ro_wp (ro_cwp X d) X y post pc lv st M cs) : ro_wp (ro_cwp X d) X y post pc lv2 st M cs := by
  refine h (fun pc lv st M cs => ∀ lv2, ro_sub lv lv2 → ro_wp (ro_cwp X d) X y post pc lv2 st M cs) ?_ lv2 hs
  intro pc lv st M cs h1 lv2 hs
  exact ro_wp_one (ro_one_lv (ro_cwp_clm X d) hs (fun _ _ _ _ _ _ hs h => h _ hs) h1)
theorem ro_sI_nj {M : ro_Mm} {c j : Nat} {v : Int32} {j' : Nat} (h : j' ≠ j) : (ro_sI M c j v).2.1 c j' = M.2.1 c j' := ro_up2_nj h
theorem ro_sJ_nj {M : ro_Mm} {c j : Nat} {v : Int64} {j' : Nat} (h : j' ≠ j) : (ro_sJ M c j v).2.2.1 c j' = M.2.2.1 c j' := ro_up2_nj h
theorem ro_sI_eq {M : ro_Mm} {c j : Nat} {v : Int32} : (ro_sI M c j v).2.1 c j = v := ro_up2_eq
theorem ro_sJ_eq {M : ro_Mm} {c j : Nat} {v : Int64} : (ro_sJ M c j v).2.2.1 c j = v := ro_up2_eq

