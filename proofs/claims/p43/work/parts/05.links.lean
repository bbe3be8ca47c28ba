/-! what the tables of links say, and the small machine's memory as a world of the kit -/
theorem ro_find {α : Type} {l : List α} {p : α → Bool} {q : α → Bool} (hl : l.all q = true) {e : α} (h : l.find? p = some e) : p e = true ∧ q e = true :=
  ⟨List.find?_some h, List.all_eq_true.mp hl e (List.mem_of_find?_eq_some h)⟩
theorem ro_any {α : Type} {l : List α} {p : α → Bool} {q : α → Bool} (hl : l.all q = true) (h : l.any p = true) : ∃ e, e ∈ l ∧ p e = true ∧ q e = true := by
  obtain ⟨e, he, hp⟩ := List.any_eq_true.mp h
  exact ⟨e, he, hp, List.all_eq_true.mp hl e he⟩
theorem ro_linkF {own x a b : Nat} (h : ro_FL.any (fun e => e.1 == own && e.2.1 == x && e.2.2.1 == a && e.2.2.2.1 == b) = true) :
    ∃ q, ro_cl[a]? = some q ∧ b < q.2.2 ∧ Cond.fieldLink (ro_Rn own) x q.1 (q.2.1 b).2.1 (q.2.1 b).2.2.1 ∈ ro_G ∧ (q.2.1 b).1 = q.1 := by
  obtain ⟨e, -, hp, hq⟩ := ro_any ro_chkF_ok h
  simp only [Bool.and_eq_true, beq_iff_eq] at hp
  obtain ⟨⟨⟨rfl, rfl⟩, rfl⟩, rfl⟩ := hp
  unfold ro_chkF at hq
  split at hq
  · rename_i q hq0
    simp only [Bool.and_eq_true, decide_eq_true_eq] at hq
    exact ⟨q, hq0, hq.1.1, ro_at_mem hq.1.2, hq.2⟩
  · cases hq
theorem ro_len_cl : ro_cl.length = 12 := rfl
theorem ro_clT {a : Nat} {q : vw_C} (h : ro_cl[a]? = some q) : (∀ w ∈ u_ws q.1 q.2.1 q.2.2, w ∈ ro_G) ∧ Cond.instantiable q.1 q.2.2 ∈ ro_G ∧ Cond.initialized q.1 ∈ ro_G ∧ ro_Rn a = q.1 := by
  have ha : a < 12 := by
    have := (List.getElem?_eq_some_iff.mp h).1
    rwa [ro_len_cl] at this
  have hc := List.all_eq_true.mp ro_chkK_ok a (List.mem_range.mpr ha)
  unfold ro_chkK at hc
  split at hc
  · rename_i q0 ps kp h1 h2 h3
    rw [h] at h1
    cases h1
    simp only [Bool.and_eq_true, decide_eq_true_eq, List.all_eq_true, List.mem_range] at hc
    obtain ⟨⟨⟨c1, c2⟩, c3⟩, c4⟩ := hc
    refine ⟨fun w hw => ?_, ro_at_mem c2, ro_at_mem c3, c4⟩
    obtain ⟨k, hk, rfl⟩ := List.mem_map.mp hw
    exact ro_at_mem (c1 k (List.mem_range.mp hk))
  · cases hc
theorem ro_clN {a : Nat} {q : vw_C} (h : ro_cl[a]? = some q) : ro_nf a = q.2.2 ∧ a < 12 ∧ (∀ k, k < q.2.2 → parseFieldDescriptor (q.2.1 k).2.2.1 = some (ro_ty a k)) ∧ (∀ i, i < q.2.2 → ∀ j, j < q.2.2 → i ≠ j → (q.2.1 i).2.1 ≠ (q.2.1 j).2.1) := by
  have ha : a < 12 := by
    have := (List.getElem?_eq_some_iff.mp h).1
    rwa [ro_len_cl] at this
  refine ⟨by simp only [ro_nf, h], ha, ?_⟩
  match a, h with
  | 0, h => cases h; exact ⟨ro_tk0, ro_nm0⟩
  | 1, h => cases h; exact ⟨ro_tk1, ro_nm1⟩
  | 2, h => cases h; exact ⟨ro_tk2, ro_nm2⟩
  | 3, h => cases h; exact ⟨ro_tk3, ro_nm3⟩
  | 4, h => cases h; exact ⟨ro_tk4, ro_nm4⟩
  | 5, h => cases h; exact ⟨ro_tk5, ro_nm5⟩
  | 6, h => cases h; exact ⟨ro_tk6, ro_nm6⟩
  | 7, h => cases h; exact ⟨ro_tk7, ro_nm7⟩
  | 8, h => cases h; exact ⟨ro_tk8, ro_nm8⟩
  | 9, h => cases h; exact ⟨ro_tk9, ro_nm9⟩
  | 10, h => cases h; exact ⟨ro_tk10, ro_nm10⟩
  | 11, h => cases h; exact ⟨ro_tk11, ro_nm11⟩
  | n + 12, _ => omega
/-- the machine's data: its classes, its array classes, where the read-only cells stand, where the made ones begin, the script -/
abbrev ro_Gd : Type := va_G × (Nat → ClassId) × (Nat → Nat) × Nat × ro_Sx
def ro_ad (g : ro_Gd) (c : Nat) : Nat := if c < 4 then g.2.2.1 c else g.2.2.2.1 + (c - 4)
def ro_tv (g : ro_Gd) (v : Value) : Value := match v with
  | .ref c => .ref (ro_ad g c)
  | v => v
def ro_tl (g : ro_Gd) (lv : ro_Lv) : ro_Lv := lv.map (fun q => (q.1, ro_tv g q.2))
def ro_ro (g : ro_Gd) (v : Value) : Option Nat := match v with
  | .ref c => some (ro_ad g c)
  | _ => none
def ro_fvs (g : ro_Gd) (M : ro_Mm) (ci c : Nat) : List Value := (List.range (ro_nf ci)).map (fun j => ro_tv g (ro_gf M (ro_ty ci j) c j))
def ro_ent (g : ro_Gd) (M : ro_Mm) (c : Nat) : va_E :=
  if (ro_kd M c).1 = 16 then .inl (g.2.1 0, (ro_kd M c).2, .inl (M.2.1 c))
  else if (ro_kd M c).1 = 17 then .inl (g.2.1 1, (ro_kd M c).2, .inr (.inl (M.2.2.1 c)))
  else if (ro_kd M c).1 = 20 then .inl (g.2.1 2, (ro_kd M c).2, .inr (.inr (.inr (.inr (fun j => ro_ro g (M.2.2.2 c j))))))
  else if (ro_kd M c).1 = 21 then .inl (g.2.1 3, (ro_kd M c).2, .inr (.inr (.inr (.inr (fun j => ro_ro g (M.2.2.2 c j))))))
  else .inr ((ro_kd M c).1, ro_fvs g M (ro_kd M c).1 c)
def ro_ws (g : ro_Gd) (M : ro_Mm) : va_W := (List.range M.1.length).map (fun k => (ro_ad g (k + 4), ro_ent g M (k + 4)))
def ro_tys (g : ro_Gd) : List (ClassId × FieldType) := [(g.2.1 0, .int), (g.2.1 1, .long), (g.2.1 2, .array .int), (g.2.1 3, .object "RefusedOnce$Shelf")]
def ro_A (g : ro_Gd) : Nat → Prop := fun q => g.2.2.2.1 ≤ q
def ro_H (g : ro_Gd) (M : ro_Mm) (H : Heap) : Prop := va_P g.1 ro_cl (ro_ws g M) H ∧ H.size = g.2.2.2.1 + M.1.length
theorem ro_tv_cat (g : ro_Gd) (v : Value) : (ro_tv g v).category = v.category := by cases v <;> rfl
theorem ro_cat_tv (g : ro_Gd) (r : List Value) : ((r.map (ro_tv g)).map fun v => v.category).sum = ro_cat r := by
  unfold ro_cat
  rw [List.map_map]
  congr 1
  exact List.map_congr_left fun v _ => ro_tv_cat g v
theorem ro_rf_ro (g : ro_Gd) {v : Value} (h : v = .null ∨ ∃ c, v = .ref c) : va_rf (ro_ro g v) = ro_tv g v := by
  rcases h with rfl | ⟨c, rfl⟩ <;> rfl
theorem ro_kd_lt {M : ro_Mm} {c k : Nat} (h : (ro_kd M c).1 = k) (hk : k < 99) : c - 4 < M.1.length := by
  unfold ro_kd at h
  rcases Nat.lt_or_ge (c - 4) M.1.length with q | q
  · exact q
  · rw [List.getD_eq_getElem?_getD, List.getElem?_eq_none q] at h
    simp at h
    omega
theorem ro_ad4 (g : ro_Gd) {c : Nat} (h : 4 ≤ c) : ro_ad g c = g.2.2.2.1 + (c - 4) := by
  unfold ro_ad
  rw [if_neg (by omega)]
theorem ro_ws_get (g : ro_Gd) {M : ro_Mm} {c : Nat} (h4 : 4 ≤ c) (hc : c - 4 < M.1.length) : (ro_ws g M)[c - 4]? = some (ro_ad g c, ro_ent g M c) := by
  unfold ro_ws
  rw [List.getElem?_map, List.getElem?_range hc]
  simp only [Option.map_some]
  rw [show c - 4 + 4 = c by omega]
theorem ro_ws_len (g : ro_Gd) (M : ro_Mm) : (ro_ws g M).length = M.1.length := by simp [ro_ws]
theorem ro_wsD (g : ro_Gd) (M : ro_Mm) : va_D (ro_A g) (ro_ws g M) := by
  have key : ∀ (k : Nat) (q : Nat × va_E), (ro_ws g M)[k]? = some q → q.1 = g.2.2.2.1 + k := by
    intro k q hq
    have hk : k < M.1.length := by
      have := (List.getElem?_eq_some_iff.mp hq).1
      rwa [ro_ws_len] at this
    have h2 := ro_ws_get g (M := M) (c := k + 4) (by omega) (by omega)
    rw [show k + 4 - 4 = k by omega, hq] at h2
    cases h2
    show ro_ad g (k + 4) = _
    rw [ro_ad4 g (by omega)]
    omega
  refine ⟨fun i j p q hi hj h => ?_, fun k q hq => ?_⟩
  · have h1 := key i p hi
    have h2 := key j q hj
    omega
  · show g.2.2.2.1 ≤ q.1
    rw [key k q hq]
    omega
theorem ro_ent_eq {g : ro_Gd} {M M' : ro_Mm} {c : Nat} (h0 : ro_kd M' c = ro_kd M c) (h1 : M'.2.1 c = M.2.1 c) (h2 : M'.2.2.1 c = M.2.2.1 c) (h3 : M'.2.2.2 c = M.2.2.2 c) : ro_ent g M' c = ro_ent g M c := by
  have hg : ∀ t j, ro_gf M' t c j = ro_gf M t c j := by
    intro t j
    unfold ro_gf
    cases t <;> simp only [h1, h2, h3]
  unfold ro_ent ro_fvs
  simp only [h0, h1, h2, h3, hg]
theorem ro_ws_set {g : ro_Gd} {M M' : ro_Mm} {c : Nat} {e : va_E} (h4 : 4 ≤ c) (hs : M'.1 = M.1) (he : ro_ent g M' c = e) (ho : ∀ c', c' ≠ c → ro_ent g M' c' = ro_ent g M c') : (ro_ws g M).set (c - 4) (ro_ad g c, e) = ro_ws g M' := by
  apply List.ext_getElem?
  intro k
  rw [List.getElem?_set]
  by_cases hk : c - 4 = k
  · subst hk
    rw [if_pos rfl]
    by_cases hl : c - 4 < M.1.length
    · rw [if_pos (by rw [ro_ws_len]; exact hl), ro_ws_get g h4 (by rw [hs]; exact hl), he]
    · rw [if_neg (by rw [ro_ws_len]; exact hl)]
      symm
      apply List.getElem?_eq_none
      rw [ro_ws_len, hs]
      omega
  · rw [if_neg hk]
    unfold ro_ws
    rw [List.getElem?_map, List.getElem?_map, hs]
    by_cases hl : k < M.1.length
    · rw [List.getElem?_range hl]
      simp only [Option.map_some]
      rw [ho (k + 4) (by omega)]
    · rw [List.getElem?_eq_none (by simpa using hl)]
      rfl
theorem ro_up2_ne {α : Type} {f : Nat → Nat → α} {c j : Nat} {v : α} {c' : Nat} (h : c' ≠ c) : ro_up2 f c j v c' = f c' := by
  funext b
  unfold ro_up2
  rw [if_neg (fun q => h q.1)]
theorem ro_row_ne {α : Type} {f : Nat → Nat → α} {c : Nat} {w : Nat → α} {c' : Nat} (h : c' ≠ c) : ro_row f c w c' = f c' := by
  funext b
  unfold ro_row
  rw [if_neg h]
theorem ro_row_eq {α : Type} {f : Nat → Nat → α} {c : Nat} {w : Nat → α} : ro_row f c w c = w := by
  funext b
  unfold ro_row
  rw [if_pos rfl]
theorem ro_up2_eq {α : Type} {f : Nat → Nat → α} {c j : Nat} {v : α} : ro_up2 f c j v c j = v := by
  unfold ro_up2
  rw [if_pos ⟨rfl, rfl⟩]
theorem ro_up2_nj {α : Type} {f : Nat → Nat → α} {c j : Nat} {v : α} {j' : Nat} (h : j' ≠ j) : ro_up2 f c j v c j' = f c j' := by
  unfold ro_up2
  rw [if_neg (fun q => h q.2)]
theorem ro_up2_i {f : Nat → Nat → Int32} {c j : Nat} {v : Int32} : ro_up2 f c j v c = upd (f c) j v := by
  funext b
  unfold ro_up2 upd
  by_cases h : b = j <;> simp [h]
theorem ro_up2_l {f : Nat → Nat → Int64} {c j : Nat} {v : Int64} : ro_up2 f c j v c = vp_updL (f c) j v := by
  funext b
  unfold ro_up2 vp_updL
  by_cases h : b = j <;> simp [h]
theorem ro_fvs_get {g : ro_Gd} {M : ro_Mm} {ci c j : Nat} (hj : j < ro_nf ci) : (ro_fvs g M ci c)[j]? = some (ro_tv g (ro_gf M (ro_ty ci j) c j)) := by
  unfold ro_fvs
  rw [List.getElem?_map, List.getElem?_range hj]
  rfl
theorem ro_fvs_set {g : ro_Gd} {M M' : ro_Mm} {ci c j : Nat} {v : Value} (hv : ro_tv g (ro_gf M' (ro_ty ci j) c j) = v) (ho : ∀ k, k ≠ j → ro_gf M' (ro_ty ci k) c k = ro_gf M (ro_ty ci k) c k) : (ro_fvs g M ci c).set j v = ro_fvs g M' ci c := by
  apply List.ext_getElem?
  intro k
  rw [List.getElem?_set]
  unfold ro_fvs
  rw [List.getElem?_map, List.length_map, List.length_range, List.getElem?_map]
  by_cases hk : j = k
  · subst hk
    rw [if_pos rfl]
    by_cases hl : j < ro_nf ci
    · rw [if_pos hl, List.getElem?_range hl]
      simp only [Option.map_some]
      rw [hv]
    · rw [if_neg hl, List.getElem?_eq_none (by simpa using hl)]
      rfl
  · rw [if_neg hk]
    by_cases hl : k < ro_nf ci
    · rw [List.getElem?_range hl]
      simp only [Option.map_some]
      rw [ho k (fun q => hk q.symm)]
    · rw [List.getElem?_eq_none (by simpa using hl)]
      rfl
/-- a class's number is none of the rows' -/
theorem ro_ent_obj {g : ro_Gd} {M : ro_Mm} {c a : Nat} (h : (ro_kd M c).1 = a) (ha : a < 12) : ro_ent g M c = .inr (a, ro_fvs g M a c) := by
  unfold ro_ent
  rw [h, if_neg (by omega), if_neg (by omega), if_neg (by omega), if_neg (by omega)]
theorem ro_ent16 {g : ro_Gd} {M : ro_Mm} {c : Nat} (h : (ro_kd M c).1 = 16) : ro_ent g M c = .inl (g.2.1 0, (ro_kd M c).2, .inl (M.2.1 c)) := by
  unfold ro_ent
  rw [if_pos h]
theorem ro_ent17 {g : ro_Gd} {M : ro_Mm} {c : Nat} (h : (ro_kd M c).1 = 17) : ro_ent g M c = .inl (g.2.1 1, (ro_kd M c).2, .inr (.inl (M.2.2.1 c))) := by
  unfold ro_ent
  rw [if_neg (by omega), if_pos h]
theorem ro_ent20 {g : ro_Gd} {M : ro_Mm} {c : Nat} (h : (ro_kd M c).1 = 20) : ro_ent g M c = .inl (g.2.1 2, (ro_kd M c).2, .inr (.inr (.inr (.inr (fun j => ro_ro g (M.2.2.2 c j)))))) := by
  unfold ro_ent
  rw [if_neg (by omega), if_neg (by omega), if_pos h]
theorem ro_ent21 {g : ro_Gd} {M : ro_Mm} {c : Nat} (h : (ro_kd M c).1 = 21) : ro_ent g M c = .inl (g.2.1 3, (ro_kd M c).2, .inr (.inr (.inr (.inr (fun j => ro_ro g (M.2.2.2 c j)))))) := by
  unfold ro_ent
  rw [if_neg (by omega), if_neg (by omega), if_neg (by omega), if_pos h]
theorem ro_pI_inv {st : List Value} {f : Int32 → List Value → Prop} (h : ro_pI st f) : ∃ x r, st = .int x :: r ∧ f x r := by
  unfold ro_pI at h
  split at h
  · exact ⟨_, _, rfl, h⟩
  · exact h.elim
theorem ro_pJ_inv {st : List Value} {f : Int64 → List Value → Prop} (h : ro_pJ st f) : ∃ x r, st = .long x :: r ∧ f x r := by
  unfold ro_pJ at h
  split at h
  · exact ⟨_, _, rfl, h⟩
  · exact h.elim
theorem ro_pD_inv {st : List Value} {f : UInt64 → List Value → Prop} (h : ro_pD st f) : ∃ x r, st = .double x :: r ∧ f x r := by
  unfold ro_pD at h
  split at h
  · exact ⟨_, _, rfl, h⟩
  · exact h.elim
theorem ro_pR_inv {st : List Value} {f : Nat → List Value → Prop} (h : ro_pR st f) : ∃ x r, st = .ref x :: r ∧ f x r := by
  unfold ro_pR at h
  split at h
  · exact ⟨_, _, rfl, h⟩
  · exact h.elim
theorem ro_pQ_inv {st : List Value} {f : Value → List Value → Prop} (h : ro_pQ st f) : ∃ x r, st = x :: r ∧ (x = .null ∨ ∃ c, x = .ref c) ∧ f x r := by
  unfold ro_pQ at h
  split at h
  · exact ⟨_, _, rfl, Or.inr ⟨_, rfl⟩, h⟩
  · exact ⟨_, _, rfl, Or.inl rfl, h⟩
  · exact h.elim
theorem ro_pV_inv {st : List Value} {f : Value → List Value → Prop} (h : ro_pV st f) : ∃ x r, st = x :: r ∧ f x r := by
  unfold ro_pV at h
  split at h
  · exact ⟨_, _, rfl, h⟩
  · exact h.elim
theorem ro_lI_inv {v : Option Value} {f : Int32 → Prop} (h : ro_lI v f) : ∃ x, v = some (.int x) ∧ f x := by
  unfold ro_lI at h
  split at h
  · exact ⟨_, rfl, h⟩
  · exact h.elim
theorem ro_lJ_inv {v : Option Value} {f : Int64 → Prop} (h : ro_lJ v f) : ∃ x, v = some (.long x) ∧ f x := by
  unfold ro_lJ at h
  split at h
  · exact ⟨_, rfl, h⟩
  · exact h.elim
theorem ro_lD_inv {v : Option Value} {f : UInt64 → Prop} (h : ro_lD v f) : ∃ x, v = some (.double x) ∧ f x := by
  unfold ro_lD at h
  split at h
  · exact ⟨_, rfl, h⟩
  · exact h.elim
theorem ro_lQ_inv {v : Option Value} {f : Value → Prop} (h : ro_lQ v f) : ∃ x, v = some x ∧ (x = .null ∨ ∃ c, x = .ref c) ∧ f x := by
  unfold ro_lQ at h
  split at h
  · exact ⟨_, rfl, Or.inr ⟨_, rfl⟩, h⟩
  · exact ⟨_, rfl, Or.inl rfl, h⟩
  · exact h.elim
theorem ro_ld_mem {lv : ro_Lv} {n : Nat} {v : Value} (h : ro_ld lv n = some v) : (n, v) ∈ lv := by
  unfold ro_ld at h
  cases hf : lv.find? (fun q => q.1 == n) with
  | none => rw [hf] at h; cases h
  | some q =>
    rw [hf] at h
    cases h
    have h1 := List.find?_some hf
    have h2 := List.mem_of_find?_eq_some hf
    have h3 : q.1 = n := by simpa using h1
    rw [← h3]
    exact h2
theorem ro_ld_at {g : ro_Gd} {lv : ro_Lv} {ls : Array Slot} {nL n : Nat} {v : Value} (hl : lv_has ls nL (ro_tl g lv)) (h : ro_ld lv n = some v) : ls[n]? = some (.val (ro_tv g v)) :=
  hl.2.2 (n, ro_tv g v) (List.mem_map.mpr ⟨(n, v), ro_ld_mem h, rfl⟩)
theorem ro_tl_s1 (g : ro_Gd) (lv : ro_Lv) (n : Nat) (v : Value) : (n, ro_tv g v) :: (ro_tl g lv).filter (fun q => !(q.1 == n) && !(q.1 + 1 == n && q.2.category == 2)) = ro_tl g (ro_s1 lv n v) := by
  unfold ro_s1 ro_tl
  rw [List.map_cons, List.filter_map]
  congr 2
  apply List.filter_congr
  intro q _
  simp only [Function.comp, ro_tv_cat]
theorem ro_tl_s2 (g : ro_Gd) (lv : ro_Lv) (n : Nat) (v : Value) : (n, ro_tv g v) :: (ro_tl g lv).filter (fun q => !(q.1 == n) && (!(q.1 == n + 1) && !(q.1 + 1 == n && q.2.category == 2))) = ro_tl g (ro_s2 lv n v) := by
  unfold ro_s2 ro_tl
  rw [List.map_cons, List.filter_map]
  congr 2
  apply List.filter_congr
  intro q _
  simp only [Function.comp, ro_tv_cat]
