/-! rows of the machine for the small machine's memory: what is stored, what is made, what is called -/
def ro_T (g : ro_Gd) (U : State) (H : Heap) : Prop :=
  (∀ i, 1 ≤ i → i < 3 → va_T .int (g.2.2.1 i) (ro_xl g.2.2.2.2 i) (fun j => .int (ro_xv g.2.2.2.2 i j)) (ro_A g) U H ∧ va_Z (ro_Sn.getD i ("", "")).1 (ro_Sn.getD i ("", "")).2 "[I" (.ref (g.2.2.1 i)) (ro_A g) U H) ∧
    va_X (g.2.2.1 0) g.2.2.2.2.1 g.2.2.2.2.2 U H ∧ g.2.2.1 0 < g.2.2.2.1
def ro_N (U : State) : Prop := (∀ e, e ∈ ro_NL → va_Nw (.methodLinkNest (ro_Rn e.1) e.2.1 (ro_m e.2.2.1).1 "RefusedOnce") U) ∧ va_AO "RefusedOnce$Shelf" U ∧ va_Nw (.arrayOver (.array .int)) U ∧ va_Nw (.castable "[I" "java/lang/Cloneable") U
theorem ro_T.moved {g : ro_Gd} {u U : State} {H H1 : Heap} (hvm : u.vm.Alike U.vm) (h : ro_T g u H) (hk : ∀ a : Nat, a < H.size → ¬ ro_A g a → H1[a]? = H[a]?) (hb : g.2.2.2.1 ≤ H.size) : ro_T g U H1 := by
  obtain ⟨h1, h2, h3⟩ := h
  refine ⟨fun i a b => ⟨((h1 i a b).1.moved hvm).kept hk, ((h1 i a b).2.moved hvm).kept hk⟩, (h2.moved hvm).kept (hk _ (Nat.lt_of_lt_of_le h3 hb) (Nat.not_le.mpr h3)), h3⟩
theorem ro_bare (f : Class → Bool) (hf : ∀ x y : Class, x.kind = y.kind → f x = f y) (vm : Vm) : vm.bare.classes.findIdx? f = vm.classes.findIdx? f := by
  simp only [Vm.bare, Array.findIdx?_map]
  congr 1
  funext x
  exact hf _ _ rfl
theorem ro_AO2 {u U : State} (hvm : u.vm.Alike U.vm) (h : va_Nw (.arrayOver (.array .int)) u) : va_Nw (.arrayOver (.array .int)) U := by
  have h0 : (Cond.arrayOver (.array .int)).before #[] u = true := h
  show (Cond.arrayOver (.array .int)).before #[] U = true
  simp only [Cond.before, Cond.holds, Cond.value, beq_iff_eq] at h0 ⊢
  cases hc : u.vm.findClass (FieldType.array .int).toString with
  | none => simp [hc] at h0
  | some comp =>
    simp only [hc, Option.bind_some, Option.bind_eq_some_iff, Option.map_eq_some_iff] at h0
    obtain ⟨c, hi, k, hk, hb⟩ := h0
    obtain ⟨k', hk', he⟩ := hvm.2.2 _ _ hk
    have hkk : k'.kind = k.kind := by rw [he]
    have f1 : U.vm.findClass (FieldType.array .int).toString = some comp := by rw [hvm.findClass]; exact hc
    rw [f1]
    simp only [Option.bind_some, Option.bind_eq_some_iff, Option.map_eq_some_iff]
    refine ⟨c, ?_, k', hk', ?_⟩
    · rw [← ro_bare _ (fun x y hxy => by simp only [hxy])]
      rw [← ro_bare _ (fun x y hxy => by simp only [hxy])] at hi
      first | rw [hvm.bare_eq] | rw [← hvm.bare_eq]
      exact hi
    · simp only [hkk, hvm.findClass]
      exact hb
theorem ro_N.warm {s U : State} (hW : s.WarmedH U.vm) (h : ro_N s) : ro_N U := ⟨fun e he => va_Nw.warmM hW (h.1 e he), va_AO.moved hW.alike h.2.1, ro_AO2 hW.alike h.2.2.1, va_Nw.warmC hW h.2.2.2⟩
theorem ro_N.same {u U : State} (hv : u.vm = U.vm) (h : ro_N u) : ro_N U := ⟨fun e he => va_Nw.same rfl hv (h.1 e he), va_AO.moved (by rw [hv]; exact Vm.Alike.refl _) h.2.1, ro_AO2 (by rw [hv]; exact Vm.Alike.refl _) h.2.2.1, va_Nw.same rfl hv h.2.2.2⟩
/-- a call of y with these arguments, from this memory -/
def ro_Pc (g : ro_Gd) (as : List Value) (M : ro_Mm) : Array Value → State → Prop := fun v U => v = (as.map (ro_tv g)).toArray ∧ ro_H g M U.heap ∧ va_K g.1 ro_cl (ro_tys g) U ∧ ro_T g U U.heap ∧ ro_N U
def ro_Qc (g : ro_Gd) (post : ro_Po) : Array Value → State → Outcome → State → Prop := fun _ st oc t => (∃ v M', oc = .returned (v.map (ro_tv g)) ∧ post v M' ∧ ro_H g M' t.heap) ∧ va_F (ro_A g) st t
def ro_rm (d y : Nat) : Room := { frames := d, cells := (ro_lim y).1, slots := (ro_lim y).2, locals := 39 * d }
theorem ro_blind {g : ro_Gd} {as : List Value} {M : ro_Mm} : FrameBlind (ro_Pc g as M) := by
  intro a U gf mk h
  obtain ⟨h1, h2, h3, h4, h5⟩ := h
  exact ⟨h1, h2, va_K.moved (u := U) (U := U.calling gf mk a) (Vm.Alike.refl U.vm) h3, h4.moved (U := U.calling gf mk a) (Vm.Alike.refl U.vm) (fun _ _ _ => rfl) (by rw [h2.2]; omega), h5.same (U := U.calling gf mk a) rfl⟩
theorem ro_mp_all {y : Nat} (h : y < 206) : ro_chkM y = true := by
  have key : ∀ q n, (List.range n).all (fun k => ro_chkM (q + k)) = true → q ≤ y → y < q + n → ro_chkM y = true := by
    intro q n h1 h2 h3
    have := List.all_eq_true.mp h1 (y - q) (List.mem_range.mpr (by omega))
    rwa [show q + (y - q) = y by omega] at this
  rcases Nat.lt_or_ge y 40 with a | a
  · exact key 0 40 ro_chkM_0 (by omega) (by omega)
  rcases Nat.lt_or_ge y 80 with b | b
  · exact key 40 40 ro_chkM_1 (by omega) (by omega)
  rcases Nat.lt_or_ge y 120 with c | c
  · exact key 80 40 ro_chkM_2 (by omega) (by omega)
  rcases Nat.lt_or_ge y 160 with d | d
  · exact key 120 40 ro_chkM_3 (by omega) (by omega)
  rcases Nat.lt_or_ge y 200 with e | e
  · exact key 160 40 ro_chkM_4 (by omega) (by omega)
  · exact key 200 6 ro_chkM_5 (by omega) (by omega)
theorem ro_cd_in {y : Nat} (h : y < 206) : ro_cd y ∈ ro_G := by
  have key : ∀ q n, (List.range n).map (fun k => some (ro_cd (q + k))) = (List.range n).map (fun k => ro_wd ((ro_MP.getD (q + k) (0, 0, 0, 0)).1)) → q ≤ y → y < q + n → ro_cd y ∈ ro_G := by
    intro q n h1 h2 h3
    have h4 := congrArg (fun l => l[y - q]?) h1
    simp only [List.getElem?_map] at h4
    rw [List.getElem?_range (by omega)] at h4
    simp only [Option.map_some, Option.some.injEq] at h4
    rw [show q + (y - q) = y by omega] at h4
    exact List.mem_filter.mpr ⟨ro_wd_mem h4.symm, ro_cd_good y⟩
  rcases Nat.lt_or_ge y 40 with a | a
  · exact key 0 40 ro_chkD_0 (by omega) (by omega)
  rcases Nat.lt_or_ge y 80 with b | b
  · exact key 40 40 ro_chkD_1 (by omega) (by omega)
  rcases Nat.lt_or_ge y 120 with c | c
  · exact key 80 40 ro_chkD_2 (by omega) (by omega)
  rcases Nat.lt_or_ge y 160 with d | d
  · exact key 120 40 ro_chkD_3 (by omega) (by omega)
  rcases Nat.lt_or_ge y 200 with e | e
  · exact key 160 40 ro_chkD_4 (by omega) (by omega)
  · exact key 200 6 ro_chkD_5 (by omega) (by omega)
/-- what the tables say of method y -/
theorem ro_meth {y : Nat} (h : y < 206) : ((ro_m y).2.2.2.2.2.2 = true → Cond.static (ro_m y).1 ∈ ro_G) ∧ ((ro_m y).2.2.2.2.2.2 = false → Cond.instanceMethod (ro_m y).1 ∈ ro_G) ∧ ((ro_m y).2.2.2.2.2.2 = false → (ro_m y).1.name ≠ "<init>" → Cond.selects (ro_m y).1.cls (ro_m y).1 (ro_m y).1 ∈ ro_G) ∧
    Cond.initialized (ro_m y).1.cls ∈ ro_G ∧ (ro_m y).1.cls = ro_Rn (ro_m y).2.2.2.2.1 ∧ (parseMethodDescriptor (ro_m y).1.desc).map (fun d => d.parameters.length) = some (ro_m y).2.2.2.2.2.1 ∧ (ro_m y).1.cls ≠ "java/lang/invoke/MethodHandle" ∧ (ro_m y).1.cls ≠ "java/lang/invoke/VarHandle" ∧ plainName (ro_m y).1.cls = true ∧ (ro_m y).2.2.1 ≤ 20 := by
  have h1 := ro_mp_all h
  unfold ro_chkM at h1
  split at h1
  · rename_i q hq
    simp only [Bool.and_eq_true, decide_eq_true_eq, Bool.or_eq_true, beq_iff_eq] at h1
    obtain ⟨⟨⟨⟨⟨⟨⟨⟨a1, a2⟩, a3⟩, a4⟩, a5⟩, a6⟩, a7⟩, a8⟩, a9⟩ := h1
    refine ⟨fun e => ?_, fun e => ?_, fun e e2 => ?_, ro_at_mem a3, a4, a5, a6, a7, a8, a9⟩
    · rw [e] at a1
      exact ro_at_mem a1
    · rw [e] at a1
      exact ro_at_mem a1
    · rcases a2 with (a2 | a2) | a2
      · rw [e] at a2
        cases a2
      · exact absurd a2 e2
      · exact ro_at_mem a2
  · cases h1
theorem ro_good {w : Cond} (h : w ∈ ro_G) : (w.onTables && w.keeps) = true ∨ ∃ ty, w = .arrayClass ty := good_of_word (List.mem_filter.mp h).2
/-- a stored cell -/
theorem ro_store {g : ro_Gd} {M M' : ro_Mm} {H0 H H1 : Heap} {locs : List Loc} {c j : Nat} (hH : ro_H g M H) (hS : va_S (ro_A g) H0 H locs) (h4 : 4 ≤ c) (hl : c - 4 < M.1.length) (hs : M'.1 = M.1) (he : va_at g.1 ro_cl (ro_ad g c, ro_ent g M' c) H1)
    (ho : ∀ c', c' ≠ c → ro_ent g M' c' = ro_ent g M c') (z : H1.size = H.size) (oq : ∀ q : Nat, q ≠ ro_ad g c → H1[q]? = H[q]?) : ro_H g M' H1 ∧ va_S (ro_A g) H0 H1 (locs ++ [⟨ro_ad g c, j⟩]) := by
  have hw := ro_ws_get g h4 hl
  have h1 := hH.1.set (ro_wsD g M) hw he oq
  rw [ro_ws_set h4 hs rfl ho] at h1
  exact ⟨⟨h1, by rw [z, hs]; exact hH.2⟩, hS.put z oq ((ro_wsD g M).2 _ _ hw)⟩
theorem ro_kd_new {M : ro_Mm} {s : Nat × Nat} {c : Nat} (h : c - 4 < M.1.length) : ro_kd (ro_new M s) c = ro_kd M c := by
  unfold ro_kd ro_new
  simp only [List.getD_eq_getElem?_getD]
  rw [List.getElem?_append_left h]
theorem ro_kd_last {M : ro_Mm} {s : Nat × Nat} : ro_kd (ro_new M s) (M.1.length + 4) = s := by
  unfold ro_kd ro_new
  simp only [List.getD_eq_getElem?_getD]
  rw [show M.1.length + 4 - 4 = M.1.length by omega, List.getElem?_append_right (Nat.le_refl _)]
  simp
theorem ro_ent_new {g : ro_Gd} {M : ro_Mm} {s : Nat × Nat} {c : Nat} (h4 : 4 ≤ c) (h : c - 4 < M.1.length) : ro_ent g (ro_new M s) c = ro_ent g M c := by
  have hne : c ≠ M.1.length + 4 := by omega
  exact ro_ent_eq (ro_kd_new h) (ro_row_ne hne) (ro_row_ne hne) (ro_row_ne hne)
theorem ro_ws_new (g : ro_Gd) (M : ro_Mm) (s : Nat × Nat) : ro_ws g (ro_new M s) = ro_ws g M ++ [(ro_ad g (M.1.length + 4), ro_ent g (ro_new M s) (M.1.length + 4))] := by
  have hl : (ro_new M s).1.length = M.1.length + 1 := by simp [ro_new]
  unfold ro_ws
  rw [hl, List.range_succ, List.map_append]
  congr 1
  apply List.map_congr_left
  intro k hk
  rw [ro_ent_new (by omega) (by have := List.mem_range.mp hk; omega)]
/-- a made cell -/
theorem ro_made {g : ro_Gd} {M : ro_Mm} {s : Nat × Nat} {H0 H H1 : Heap} {locs : List Loc} (hH : ro_H g M H) (hS : va_S (ro_A g) H0 H locs) (he : va_at g.1 ro_cl (H.size, ro_ent g (ro_new M s) (M.1.length + 4)) H1) (z : H1.size = H.size + 1) (oq : ∀ q : Nat, q < H.size → H1[q]? = H[q]?) :
    ro_H g (ro_new M s) H1 ∧ va_S (ro_A g) H0 H1 locs ∧ ro_ad g (M.1.length + 4) = H.size := by
  have ha : ro_ad g (M.1.length + 4) = H.size := by rw [ro_ad4 g (by omega), hH.2]; omega
  refine ⟨⟨?_, ?_⟩, ⟨by have := hS.1; omega, fun q h1 h2 => (oq q (Nat.lt_of_lt_of_le h1 hS.1)).trans (hS.2.1 q h1 h2), hS.2.2⟩, ha⟩
  · rw [ro_ws_new, ha]
    refine (hH.1.kept (fun k x hx => oq x.1 ((hH.1 k x hx).lt))).app (fun k x hx => ?_)
    have hz : k < 1 := (List.getElem?_eq_some_iff.mp hx).1
    rw [show k = 0 by omega] at hx
    cases hx
    exact he
  · rw [z, hH.2]
    simp [ro_new]
    omega
theorem ro_kd_cpy {M : ro_Mm} {c0 c : Nat} (h : c - 4 < M.1.length) : ro_kd (ro_cpy M c0) c = ro_kd M c := by
  unfold ro_cpy
  unfold ro_kd
  simp only [List.getD_eq_getElem?_getD]
  rw [List.getElem?_append_left h]
theorem ro_kd_cpl {M : ro_Mm} {c0 : Nat} : ro_kd (ro_cpy M c0) (M.1.length + 4) = ro_kd M c0 := by
  show (M.1 ++ [ro_kd M c0]).getD (M.1.length + 4 - 4) (99, 0) = _
  simp only [List.getD_eq_getElem?_getD]
  rw [show M.1.length + 4 - 4 = M.1.length by omega, List.getElem?_append_right (Nat.le_refl _)]
  simp
theorem ro_ent_cpy {g : ro_Gd} {M : ro_Mm} {c0 c : Nat} (h4 : 4 ≤ c) (h : c - 4 < M.1.length) : ro_ent g (ro_cpy M c0) c = ro_ent g M c := by
  have hne : c ≠ M.1.length + 4 := by omega
  exact ro_ent_eq (ro_kd_cpy h) (ro_row_ne hne) (ro_row_ne hne) (ro_row_ne hne)
theorem ro_ws_cpy (g : ro_Gd) (M : ro_Mm) (c0 : Nat) : ro_ws g (ro_cpy M c0) = ro_ws g M ++ [(ro_ad g (M.1.length + 4), ro_ent g (ro_cpy M c0) (M.1.length + 4))] := by
  have hl : (ro_cpy M c0).1.length = M.1.length + 1 := by simp [ro_cpy]
  unfold ro_ws
  rw [hl, List.range_succ, List.map_append]
  congr 1
  apply List.map_congr_left
  intro k hk
  rw [ro_ent_cpy (by omega) (by have := List.mem_range.mp hk; omega)]
section ROC
variable {p : Program} {l : Launch} {e : Env} {R : Room} {s : State} {m : MethodId} {args : Array Value} {below : List Frame} {meth : Method} {c : Code} {H : Heap} {locs : List Loc} {cells slots : Nat} {Q : State → Prop}
variable {pc : Nat} {ls : Array Slot} {rest st0 : List Value} {a : Array Value} {H0 : Heap} {mc ms : Nat}
/-- behind a call -/
theorem ro_back {g : ro_Gd} {post : ro_Po} (hr : va_Run p l e R s m args below meth c H locs cells slots mc ms (F0 m pc ls st0) rest (ro_Qc g post a) (ro_A g)) (hS : va_S (ro_A g) H0 H locs)
    (kk : ∀ (v : Option Value) (M' : ro_Mm) (H1 : Heap) (locs1 : List Loc), post v M' → ro_H g M' H1 → va_S (ro_A g) H0 H1 locs1 → W p l e R s m args below meth c H1 locs1 (cells + mc) (slots + ms) Q (F0 m (pc + 3) ls ((v.map (ro_tv g)).toList ++ rest))) : W p l e R s m args below meth c H locs cells slots Q (F0 m pc ls st0) := by
  intro T hT X
  obtain ⟨v, st₀, t, T', L, h0, X', hL, e1, e2, ⟨⟨v', M', hv, hp, hH⟩, hz, hk⟩, st⟩ := hr T hT X
  cases hv
  rw [h0] at hz hk
  obtain ⟨t2, a1, b1⟩ := kk v' M' T'.heap (locs ++ L) hp (by rw [e1]; exact hH)
    ⟨Nat.le_trans hS.1 (by rw [e1]; exact hz), fun q h1 h2 => by rw [e1, hk q (Nat.lt_of_lt_of_le h1 hS.1) h2]; exact hS.2.1 q h1 h2, fun q hq => by
      rcases List.mem_append.mp hq with h | h
      · exact hS.2.2 q h
      · exact hL q h⟩ T' rfl X'
  exact ⟨t2, st t2 a1, b1⟩
end ROC
