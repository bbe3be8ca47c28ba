/-! the law's start: the claim out of the small machine -/
def ro_M0 : ro_Mm := ([], fun _ _ => 0, fun _ _ => 0, fun _ _ => .null)
/-- WHAT IS LEFT of the claim: the small machine answers true of every script -/
def ro_Pure : Prop := ∀ (L : Nat) (xs : Nat → Int32), L ≤ 260 → ro_wp (ro_cwp (L, xs) 2000) (L, xs) 206 (fun v _ => v = some (.int 1)) 0 [(0, .ref 0)] [] ro_M0 (0, 0)
theorem ro_el1 : ∀ j, j < 7 → Cond.eq (.elem (.static "RefusedOnce$Land" "MOST" "[I") (.int (Int32.ofNat j))) (.int (ro_xv (0, fun _ => 0) 1 j)) ∈ flatC (Jvm.Cond.and given_1 narrow_1) := by decide +kernel
theorem ro_el2 : ∀ j, j < 3 → Cond.eq (.elem (.static "RefusedOnceLaw" "FIRST" "[I") (.int (Int32.ofNat j))) (.int (ro_xv (0, fun _ => 0) 2 j)) ∈ flatC (Jvm.Cond.and given_1 narrow_1) := by decide +kernel
theorem ro_GT : ∀ w ∈ ro_G, w ∈ lw_tbl := fun w hw => (List.mem_filter.mp hw).1
/-- a table at the start -/
theorem ro_tab {args : Array Value} {s : State} {C n : String} {N : Nat} {f : Nat → Int32} {A : Nat → Prop} (hs : ∀ c ∈ flatC (Jvm.Cond.and given_1 narrow_1), c.before args s = true) (hN : N < 2 ^ 31) (h1 : Cond.arrayOf (.static C n "[I") .int ∈ flatC (Jvm.Cond.and given_1 narrow_1)) (h2 : Cond.eq (.length (.static C n "[I")) (.int (Int32.ofNat N)) ∈ flatC (Jvm.Cond.and given_1 narrow_1))
    (h3 : ∀ j, j < N → Cond.eq (.elem (.static C n "[I") (.int (Int32.ofNat j))) (.int (f j)) ∈ flatC (Jvm.Cond.and given_1 narrow_1)) (hl : (Cond.laysStatic C n "[I").before args s = true) (hini : (Cond.initialized C).before args s = true) (hA : ∀ a : Nat, a < s.heap.size → ¬ A a) :
    ∃ t : Nat, va_T .int t N (fun j => .int (f j)) A s s.heap ∧ va_Z C n "[I" (.ref t) A s s.heap := by
  obtain ⟨t, ht, hT⟩ := va_Tof (A := A) (f := fun j => .int (f j)) hN (hs _ h1) (va_eqt (hs _ h2)) (fun j hj => va_eqt (hs _ (h3 j hj))) hA
  exact ⟨t, hT, va_Zref hl hini ht hA⟩
set_option maxHeartbeats 4000000 in
set_option maxRecDepth 20000 in
theorem ro_start (hpure : ro_Pure) {p : Program} {e : Env} {s : State} {m : MethodId} {below : List Frame} {meth : Method} {c : Code} (l : Launch) {b L : Nat} {xs : Nat → Int32} (hL : L ≤ 260) (C0 : lw_At p s m meth c b L xs) : W p l e room_1 s m #[Value.ref b] below meth c s.heap [] 0 0 (lw_Z below #[Value.ref b] s) (entryFrame m ([Value.ref b] : List Value).toArray 31) := by
  obtain ⟨hx, hb, hr, hml, hown, hts, hX, hbl, hlocks, hgv⟩ := id C0
  have hs := flat_of_before _ hgv
  have hNA : ∀ a : Nat, a < s.heap.size → ¬ (fun q : Nat => s.heap.size ≤ q) a := fun a h => Nat.not_le.mpr h
  have hk : ∀ k : Nat, ∃ (cC : ClassId) (iS : Nat → Nat), ∀ q, ro_cl[k]? = some q → u_Kn s q.1 q.2.1 q.2.2 cC iS := by
    intro k
    cases h : ro_cl[k]? with
    | none => exact ⟨0, fun _ => 0, fun q hq => by cases hq⟩
    | some q =>
      obtain ⟨h1, h2, -, -⟩ := ro_clT h
      obtain ⟨cC, iS, h3⟩ := u_known (C := q.1) (T := q.2.1) (N := q.2.2) hts (fun w hw => ro_GT w (h1 w hw)) (hts _ (ro_GT _ h2))
      exact ⟨cC, iS, fun q' hq' => by cases hq'; exact h3⟩
  have arr : ∀ ty : FieldType, (Cond.arrayClass ty).before #[Value.ref b] s = true → (∀ n, ty ≠ .object n) → ∃ cA, ArrOfT s cA ty ∧ va_RA s cA ty := by
    intro ty h h2
    obtain ⟨cA, kA, comp, f1, f2, f3⟩ := Cond.arrayClass_spec h
    refine ⟨cA, fun n z => ⟨(fun q h => by cases h), kA, f2, comp, f3⟩, ?_⟩
    cases ty <;> first | exact f1 | exact absurd rfl (h2 _)
  obtain ⟨a0, ha0⟩ := arr .int (hts _ (ro_GT _ (ro_at_mem ro_ac0))) (fun _ h => by cases h)
  obtain ⟨a1, ha1⟩ := arr .long (hts _ (ro_GT _ (ro_at_mem ro_ac1))) (fun _ h => by cases h)
  have hao : (Cond.arrayOver (.array .int)).before #[Value.ref b] s = true := hts _ (ro_wd_mem ro_ao1)
  obtain ⟨comp4, a4, k4, -, g2, g3, g4⟩ := Cond.arrayOver_specA hao
  have ha4 : ArrOfT s a4 (.array .int) ∧ va_RA s a4 (.array .int) := ⟨fun n z => ⟨(fun q h => by cases h), k4, g2, comp4, g3⟩, g4⟩
  have hao5 : (Cond.arrayOver (.object "RefusedOnce$Shelf")).before #[Value.ref b] s = true := hts _ (ro_wd_mem ro_ao0)
  obtain ⟨comp5, a5, k5, q1, -, q2, q3, q4⟩ := Cond.arrayOver_spec hao5
  have ha5 : ArrOfT s a5 (.object "RefusedOnce$Shelf") ∧ va_RA s a5 (.object "RefusedOnce$Shelf") := ⟨fun n z => ⟨(fun q h => by cases h), k5, q2, comp5, q3⟩, k5, comp5, q2, q3, q1, q4⟩
  obtain ⟨t1, T1, Z1⟩ := ro_tab (C := "RefusedOnce$Land") (n := "MOST") (N := 7) (f := fun j => ro_xv (0, fun _ => 0) 1 j) (A := fun q : Nat => s.heap.size ≤ q) hs (by decide) (by decide +kernel) (by decide +kernel) ro_el1 (hts _ (ro_wd_mem ro_ls0)) (hts _ (ro_GT _ (ro_clT (a := 4) rfl).2.2.1)) hNA
  obtain ⟨t2, T2, Z2⟩ := ro_tab (C := "RefusedOnceLaw") (n := "FIRST") (N := 3) (f := fun j => ro_xv (0, fun _ => 0) 2 j) (A := fun q : Nat => s.heap.size ≤ q) hs (by decide) (by decide +kernel) (by decide +kernel) ro_el2 (hts _ (ro_wd_mem ro_ls1)) (hts _ (ro_GT _ (ro_at_mem ro_li))) hNA
  obtain ⟨g, hg⟩ : ∃ g : ro_Gd, g = ((fun k => Classical.choose (hk k), fun k => Classical.choose (Classical.choose_spec (hk k))), (fun i => match i with | 0 => a0 | 1 => a1 | 2 => a4 | _ => a5), (fun i => match i with | 0 => b | 1 => t1 | _ => t2), s.heap.size, (L, xs)) := ⟨_, rfl⟩
  have hK : va_K g.1 ro_cl (ro_tys g) s := by
    subst hg
    refine ⟨fun k q hq => Classical.choose_spec (Classical.choose_spec (hk k)) q hq, fun k q hq => ?_⟩
    match k, hq with
    | 0, hq => cases hq; exact ha0
    | 1, hq => cases hq; exact ha1
    | 2, hq => cases hq; exact ha4
    | 3, hq => cases hq; exact ha5
    | k + 4, hq => simp [ro_tys] at hq
  have hT : ro_T g s s.heap := by
    subst hg
    refine ⟨fun i h1 h2 => ?_, hX, hbl⟩
    match i, h1, h2 with
    | 1, _, _ => exact ⟨T1, Z1⟩
    | 2, _, _ => exact ⟨T2, Z2⟩
    | 0, h1, _ => omega
    | i + 3, _, h2 => omega
  have hN : ro_N s := by
    refine ⟨fun e he => ?_, hts _ (ro_wd_mem ro_ao0), hts _ (ro_wd_mem ro_ao1), va_Nw.of rfl (hts _ (ro_wd_mem ro_cn5))⟩
    have h1 := List.all_eq_true.mp ro_chkN_ok e he
    unfold ro_chkN at h1
    simp only [Bool.and_eq_true, decide_eq_true_eq] at h1
    exact va_Nw.of rfl (hts _ (ro_wd_mem h1.1))
  have hbase : g.2.2.2.1 = s.heap.size := by rw [hg]
  have hX2 : g.2.2.2.2 = (L, xs) := by rw [hg]
  have had : ro_ad g 0 = b := by rw [hg]; rfl
  have hH : ro_H g ro_M0 s.heap := ⟨fun k q h => by simp [ro_ws, ro_M0] at h, by rw [hbase]; rfl⟩
  have hl := lv_entry ([.ref b]) (n := 31) (Nat.le_of_ble_eq_true rfl)
  rw [lg_entry_eq]
  generalize (lg_sl ([.ref b]) ++ List.replicate (31 - (lg_sl ([.ref b])).length) Slot.unset).toArray = ls at hl ⊢
  have hl : lv_has ls 31 (ro_tl g [(0, .ref 0)]) := by
    show lv_has ls 31 [(0, .ref (ro_ad g 0))]
    rw [had]
    exact hl
  have hp := hpure L xs hL
  rw [← hX2] at hp
  refine ro_walk (y := 206) (d := 2000) (Ts := lw_tbl) (cl := ro_cwp g.2.2.2.2 2000) (by omega) hx hb hml hown hts ro_GT hK hT hN (fun q => absurd q (by decide)) (by rw [hbase]; exact Nat.le_refl _) (Nat.le_of_ble_eq_true rfl) (Nat.le_of_ble_eq_true rfl) ⟨rfl, rfl⟩ (fun y as M post _ h => ro_met l g 2000 y as M post h) (fun y as M post h => ro_cwp_lt h) ?_ 0 [(0, .ref 0)] [] ro_M0 (0, 0) hp s.heap [] ls hH va_S.rf hl ⟨Nat.zero_le _, Nat.zero_le _⟩
  intro pc st M' cs i H locs ls' hdg hR he hH' hS
  obtain ⟨c1, c2, he⟩ := he
  split at he
  · obtain ⟨-, hp⟩ := he
    cases hp
    refine W.widen (k := 600000) (n := 7302250) c1 c2 (va_forget (fun q hq => ?_) (W.base (lw_ret (Drawn.sameBut.refl s.drawn lw_cs) hx hb hr hlocks hdg)))
    have := hS.2.2 q hq
    rw [← hbase]
    exact this
  · obtain ⟨-, hp⟩ := he
    cases hp
  · obtain ⟨-, hp⟩ := he
    cases hp
  · obtain ⟨-, hp⟩ := he
    cases hp
  · obtain ⟨-, hp⟩ := he
    cases hp
  · obtain ⟨-, hp⟩ := he
    cases hp
  · exact he.elim
