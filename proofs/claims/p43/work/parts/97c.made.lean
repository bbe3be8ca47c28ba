/-! the constructor, run on the empty memory: every memory on the way has a name (by program, wip/p43/gen21.py) -/
def ro_k1 : ro_Mm := ro_new ro_M0 (11, 9)
def ro_k2 : ro_Mm := ro_new ro_k1 (4, 13)
def ro_k3 : ro_Mm := ro_new ro_k2 (8, 2)
def ro_k4 : ro_Mm := ro_new ro_k3 (16, 6)
def ro_k5 : ro_Mm := ro_sR ro_k4 6 0 (.ref 7)
def ro_k6 : ro_Mm := ro_new ro_k5 (16, 6)
def ro_k7 : ro_Mm := ro_sR ro_k6 6 1 (.ref 8)
set_option maxRecDepth 20000 in
/-- RefusedOnce$Purses.<init> -/
theorem ci_1 {X : ro_Sx} : ro_cwp X 1 2 [.ref 6] ro_k3 (fun v M2 => v = none ∧ M2 = ro_k7) := by
  refine rs_begin (lv0 := [(0, .ref 6)]) (by decide) rfl (by rw [rm_2.1]; exact Nat.le_of_ble_eq_true rfl) rfl ?_
  refine rs_aload_n ri_2_0 rfl rfl ?_
  refine rs_obj ri_2_1 rfl (Nat.le_of_ble_eq_true rfl) ?_
  refine rs_aload_n ri_2_4 rfl rfl ?_
  refine rs_bipush (v := (6 : Int32)) ri_2_5 rfl (by decide) ?_
  refine rs_newa (c := 7) (k := 16) (n := 6) (c1 := 1) (c2 := 6) ri_2_7 rfl rfl (by decide) (by decide) (by decide) rfl (by decide) (by decide +kernel) rfl rfl (by decide) (by decide) ?_
  show ro_w X _ 2 _ 9 [(0, .ref 6)] [.ref 7, .ref 6] ro_k4 (1, 6)
  refine rs_pf (M2 := ro_k5) ri_2_9 rfl (by decide) (by decide +kernel) (fun _ => by decide +kernel) (fun f h => h) ?_
  refine rs_aload_n ri_2_12 rfl rfl ?_
  refine rs_bipush (v := (6 : Int32)) ri_2_13 rfl (by decide) ?_
  refine rs_newa (c := 8) (k := 16) (n := 6) (c1 := 2) (c2 := 12) ri_2_15 rfl rfl (by decide) (by decide) (by decide) rfl (by decide) (by decide +kernel) rfl rfl (by decide) (by decide) ?_
  show ro_w X _ 2 _ 17 [(0, .ref 6)] [.ref 8, .ref 6] ro_k6 (2, 12)
  refine rs_pf (M2 := ro_k7) ri_2_17 rfl (by decide) (by decide +kernel) (fun _ => by decide +kernel) (fun f h => h) ?_
  refine rs_ret ri_2_20 rm_2.2.1 (by decide) ?_
  exact ⟨rfl, rfl⟩
def ro_k8 : ro_Mm := ro_sR ro_k7 5 0 (.ref 6)
def ro_k9 : ro_Mm := ro_new ro_k8 (16, 6)
def ro_k10 : ro_Mm := ro_sR ro_k9 5 1 (.ref 9)
def ro_k11 : ro_Mm := ro_new ro_k10 (16, 6)
def ro_k12 : ro_Mm := ro_sR ro_k11 5 2 (.ref 10)
def ro_k13 : ro_Mm := ro_new ro_k12 (16, 4)
def ro_k14 : ro_Mm := ro_sR ro_k13 5 3 (.ref 11)
def ro_k15 : ro_Mm := ro_sI ro_k14 5 5 (3 : Int32)
def ro_k16 : ro_Mm := ro_sI ro_k15 5 6 (0 : Int32)
def ro_k17 : ro_Mm := ro_sI ro_k16 5 7 (6 : Int32)
def ro_k18 : ro_Mm := ro_new ro_k17 (8, 2)
def ro_k19 : ro_Mm := ro_new ro_k18 (16, 6)
def ro_k20 : ro_Mm := ro_sR ro_k19 12 0 (.ref 13)
def ro_k21 : ro_Mm := ro_new ro_k20 (16, 6)
def ro_k22 : ro_Mm := ro_sR ro_k21 12 1 (.ref 14)
set_option maxRecDepth 20000 in
/-- RefusedOnce$Purses.<init> -/
theorem ci_2 {X : ro_Sx} : ro_cwp X 1 2 [.ref 12] ro_k18 (fun v M2 => v = none ∧ M2 = ro_k22) := by
  refine rs_begin (lv0 := [(0, .ref 12)]) (by decide) rfl (by rw [rm_2.1]; exact Nat.le_of_ble_eq_true rfl) rfl ?_
  refine rs_aload_n ri_2_0 rfl rfl ?_
  refine rs_obj ri_2_1 rfl (Nat.le_of_ble_eq_true rfl) ?_
  refine rs_aload_n ri_2_4 rfl rfl ?_
  refine rs_bipush (v := (6 : Int32)) ri_2_5 rfl (by decide) ?_
  refine rs_newa (c := 13) (k := 16) (n := 6) (c1 := 1) (c2 := 6) ri_2_7 rfl rfl (by decide) (by decide) (by decide) rfl (by decide) (by decide +kernel) rfl rfl (by decide) (by decide) ?_
  show ro_w X _ 2 _ 9 [(0, .ref 12)] [.ref 13, .ref 12] ro_k19 (1, 6)
  refine rs_pf (M2 := ro_k20) ri_2_9 rfl (by decide) (by decide +kernel) (fun _ => by decide +kernel) (fun f h => h) ?_
  refine rs_aload_n ri_2_12 rfl rfl ?_
  refine rs_bipush (v := (6 : Int32)) ri_2_13 rfl (by decide) ?_
  refine rs_newa (c := 14) (k := 16) (n := 6) (c1 := 2) (c2 := 12) ri_2_15 rfl rfl (by decide) (by decide) (by decide) rfl (by decide) (by decide +kernel) rfl rfl (by decide) (by decide) ?_
  show ro_w X _ 2 _ 17 [(0, .ref 12)] [.ref 14, .ref 12] ro_k21 (2, 12)
  refine rs_pf (M2 := ro_k22) ri_2_17 rfl (by decide) (by decide +kernel) (fun _ => by decide +kernel) (fun f h => h) ?_
  refine rs_ret ri_2_20 rm_2.2.1 (by decide) ?_
  exact ⟨rfl, rfl⟩
def ro_k23 : ro_Mm := ro_sR ro_k22 5 8 (.ref 12)
def ro_k24 : ro_Mm := ro_new ro_k23 (16, 4)
def ro_k25 : ro_Mm := ro_sR ro_k24 5 9 (.ref 15)
set_option maxRecDepth 20000 in
/-- RefusedOnce$Land.<init> -/
theorem ci_3 {X : ro_Sx} : ro_cwp X 2 1 [.ref 5] ro_k2 (fun v M2 => v = none ∧ M2 = ro_k25) := by
  refine rs_begin (lv0 := [(0, .ref 5)]) (by decide) rfl (by rw [rm_1.1]; exact Nat.le_of_ble_eq_true rfl) rfl ?_
  refine rs_aload_n ri_1_0 rfl rfl ?_
  refine rs_obj ri_1_1 rfl (Nat.le_of_ble_eq_true rfl) ?_
  refine rs_aload_n ri_1_4 rfl rfl ?_
  refine rs_new (c := 6) (c1 := 1) (c2 := 2) ri_1_5 rfl rfl rfl (by decide +kernel) rfl rfl (by decide) (by decide) ?_
  show ro_w X _ 1 _ 8 [(0, .ref 5)] [.ref 6, .ref 5] ro_k3 (1, 2)
  refine rs_dup ri_1_8 rfl rfl ?_
  refine rs_spec (As := []) (r := [.ref 6, .ref 5]) (c1 := 3) (c2 := 14) ri_1_9 (by decide) rfl rm_2.2.2.2 rfl rfl (Nat.le_of_ble_eq_true rfl) rfl rfl rfl rfl (by decide) (by decide) (by decide) ci_1 ?_
  rintro _ _ ⟨e1, e2⟩
  rw [e1, e2]
  show ro_w X _ 1 _ 12 [(0, .ref 5)] [.ref 6, .ref 5] ro_k7 (3, 14)
  refine rs_pf (M2 := ro_k8) ri_1_12 rfl (by decide) (by decide +kernel) (fun _ => by decide +kernel) (fun f h => h) ?_
  refine rs_aload_n ri_1_15 rfl rfl ?_
  refine rs_bipush (v := (6 : Int32)) ri_1_16 rfl (by decide) ?_
  refine rs_newa (c := 9) (k := 16) (n := 6) (c1 := 4) (c2 := 20) ri_1_18 rfl rfl (by decide) (by decide) (by decide) rfl (by decide) (by decide +kernel) rfl rfl (by decide) (by decide) ?_
  show ro_w X _ 1 _ 20 [(0, .ref 5)] [.ref 9, .ref 5] ro_k9 (4, 20)
  refine rs_pf (M2 := ro_k10) ri_1_20 rfl (by decide) (by decide +kernel) (fun _ => by decide +kernel) (fun f h => h) ?_
  refine rs_aload_n ri_1_23 rfl rfl ?_
  refine rs_bipush (v := (6 : Int32)) ri_1_24 rfl (by decide) ?_
  refine rs_newa (c := 10) (k := 16) (n := 6) (c1 := 5) (c2 := 26) ri_1_26 rfl rfl (by decide) (by decide) (by decide) rfl (by decide) (by decide +kernel) rfl rfl (by decide) (by decide) ?_
  show ro_w X _ 1 _ 28 [(0, .ref 5)] [.ref 10, .ref 5] ro_k11 (5, 26)
  refine rs_pf (M2 := ro_k12) ri_1_28 rfl (by decide) (by decide +kernel) (fun _ => by decide +kernel) (fun f h => h) ?_
  refine rs_aload_n ri_1_31 rfl rfl ?_
  refine rs_iconst (v := (4 : Int32)) ri_1_32 rfl (by decide) ?_
  refine rs_newa (c := 11) (k := 16) (n := 4) (c1 := 6) (c2 := 30) ri_1_33 rfl rfl (by decide) (by decide) (by decide) rfl (by decide) (by decide +kernel) rfl rfl (by decide) (by decide) ?_
  show ro_w X _ 1 _ 35 [(0, .ref 5)] [.ref 11, .ref 5] ro_k13 (6, 30)
  refine rs_pf (M2 := ro_k14) ri_1_35 rfl (by decide) (by decide +kernel) (fun _ => by decide +kernel) (fun f h => h) ?_
  refine rs_aload_n ri_1_38 rfl rfl ?_
  refine rs_iconst (v := (3 : Int32)) ri_1_39 rfl (by decide) ?_
  refine rs_pf (M2 := ro_k15) ri_1_40 rfl (by decide) (by decide +kernel) (fun _ => by decide +kernel) (fun f h => h) ?_
  refine rs_aload_n ri_1_43 rfl rfl ?_
  refine rs_iconst (v := (0 : Int32)) ri_1_44 rfl (by decide) ?_
  refine rs_pf (M2 := ro_k16) ri_1_45 rfl (by decide) (by decide +kernel) (fun _ => by decide +kernel) (fun f h => h) ?_
  refine rs_aload_n ri_1_48 rfl rfl ?_
  refine rs_bipush (v := (6 : Int32)) ri_1_49 rfl (by decide) ?_
  refine rs_pf (M2 := ro_k17) ri_1_51 rfl (by decide) (by decide +kernel) (fun _ => by decide +kernel) (fun f h => h) ?_
  refine rs_aload_n ri_1_54 rfl rfl ?_
  refine rs_new (c := 12) (c1 := 7) (c2 := 32) ri_1_55 rfl rfl rfl (by decide +kernel) rfl rfl (by decide) (by decide) ?_
  show ro_w X _ 1 _ 58 [(0, .ref 5)] [.ref 12, .ref 5] ro_k18 (7, 32)
  refine rs_dup ri_1_58 rfl rfl ?_
  refine rs_spec (As := []) (r := [.ref 12, .ref 5]) (c1 := 9) (c2 := 44) ri_1_59 (by decide) rfl rm_2.2.2.2 rfl rfl (Nat.le_of_ble_eq_true rfl) rfl rfl rfl rfl (by decide) (by decide) (by decide) ci_2 ?_
  rintro _ _ ⟨e1, e2⟩
  rw [e1, e2]
  show ro_w X _ 1 _ 62 [(0, .ref 5)] [.ref 12, .ref 5] ro_k22 (9, 44)
  refine rs_pf (M2 := ro_k23) ri_1_62 rfl (by decide) (by decide +kernel) (fun _ => by decide +kernel) (fun f h => h) ?_
  refine rs_aload_n ri_1_65 rfl rfl ?_
  refine rs_iconst (v := (4 : Int32)) ri_1_66 rfl (by decide) ?_
  refine rs_newa (c := 15) (k := 16) (n := 4) (c1 := 10) (c2 := 48) ri_1_67 rfl rfl (by decide) (by decide) (by decide) rfl (by decide) (by decide +kernel) rfl rfl (by decide) (by decide) ?_
  show ro_w X _ 1 _ 69 [(0, .ref 5)] [.ref 15, .ref 5] ro_k24 (10, 48)
  refine rs_pf (M2 := ro_k25) ri_1_69 rfl (by decide) (by decide +kernel) (fun _ => by decide +kernel) (fun f h => h) ?_
  refine rs_ret ri_1_72 rm_1.2.1 (by decide) ?_
  exact ⟨rfl, rfl⟩
def ro_k26 : ro_Mm := ro_sR ro_k25 4 0 (.ref 5)
def ro_k27 : ro_Mm := ro_new ro_k26 (5, 10)
def ro_k28 : ro_Mm := ro_new ro_k27 (16, 120)
def ro_k29 : ro_Mm := ro_sR ro_k28 16 0 (.ref 17)
def ro_k30 : ro_Mm := ro_new ro_k29 (16, 121)
def ro_k31 : ro_Mm := ro_sR ro_k30 16 1 (.ref 18)
def ro_k32 : ro_Mm := ro_new ro_k31 (16, 121)
def ro_k33 : ro_Mm := ro_sR ro_k32 16 2 (.ref 19)
def ro_k34 : ro_Mm := ro_new ro_k33 (16, 121)
def ro_k35 : ro_Mm := ro_sR ro_k34 16 3 (.ref 20)
def ro_k36 : ro_Mm := ro_new ro_k35 (16, 6)
def ro_k37 : ro_Mm := ro_sR ro_k36 16 4 (.ref 21)
set_option maxRecDepth 20000 in
/-- RefusedOnce$Law.<init> -/
theorem ci_4 {X : ro_Sx} : ro_cwp X 1 3 [.ref 16] ro_k27 (fun v M2 => v = none ∧ M2 = ro_k37) := by
  refine rs_begin (lv0 := [(0, .ref 16)]) (by decide) rfl (by rw [rm_3.1]; exact Nat.le_of_ble_eq_true rfl) rfl ?_
  refine rs_aload_n ri_3_0 rfl rfl ?_
  refine rs_obj ri_3_1 rfl (Nat.le_of_ble_eq_true rfl) ?_
  refine rs_aload_n ri_3_4 rfl rfl ?_
  refine rs_bipush (v := (120 : Int32)) ri_3_5 rfl (by decide) ?_
  refine rs_newa (c := 17) (k := 16) (n := 120) (c1 := 1) (c2 := 120) ri_3_7 rfl rfl (by decide) (by decide) (by decide) rfl (by decide) (by decide +kernel) rfl rfl (by decide) (by decide) ?_
  show ro_w X _ 3 _ 9 [(0, .ref 16)] [.ref 17, .ref 16] ro_k28 (1, 120)
  refine rs_pf (M2 := ro_k29) ri_3_9 rfl (by decide) (by decide +kernel) (fun _ => by decide +kernel) (fun f h => h) ?_
  refine rs_aload_n ri_3_12 rfl rfl ?_
  refine rs_bipush (v := (121 : Int32)) ri_3_13 rfl (by decide) ?_
  refine rs_newa (c := 18) (k := 16) (n := 121) (c1 := 2) (c2 := 241) ri_3_15 rfl rfl (by decide) (by decide) (by decide) rfl (by decide) (by decide +kernel) rfl rfl (by decide) (by decide) ?_
  show ro_w X _ 3 _ 17 [(0, .ref 16)] [.ref 18, .ref 16] ro_k30 (2, 241)
  refine rs_pf (M2 := ro_k31) ri_3_17 rfl (by decide) (by decide +kernel) (fun _ => by decide +kernel) (fun f h => h) ?_
  refine rs_aload_n ri_3_20 rfl rfl ?_
  refine rs_bipush (v := (121 : Int32)) ri_3_21 rfl (by decide) ?_
  refine rs_newa (c := 19) (k := 16) (n := 121) (c1 := 3) (c2 := 362) ri_3_23 rfl rfl (by decide) (by decide) (by decide) rfl (by decide) (by decide +kernel) rfl rfl (by decide) (by decide) ?_
  show ro_w X _ 3 _ 25 [(0, .ref 16)] [.ref 19, .ref 16] ro_k32 (3, 362)
  refine rs_pf (M2 := ro_k33) ri_3_25 rfl (by decide) (by decide +kernel) (fun _ => by decide +kernel) (fun f h => h) ?_
  refine rs_aload_n ri_3_28 rfl rfl ?_
  refine rs_bipush (v := (121 : Int32)) ri_3_29 rfl (by decide) ?_
  refine rs_newa (c := 20) (k := 16) (n := 121) (c1 := 4) (c2 := 483) ri_3_31 rfl rfl (by decide) (by decide) (by decide) rfl (by decide) (by decide +kernel) rfl rfl (by decide) (by decide) ?_
  show ro_w X _ 3 _ 33 [(0, .ref 16)] [.ref 20, .ref 16] ro_k34 (4, 483)
  refine rs_pf (M2 := ro_k35) ri_3_33 rfl (by decide) (by decide +kernel) (fun _ => by decide +kernel) (fun f h => h) ?_
  refine rs_aload_n ri_3_36 rfl rfl ?_
  refine rs_bipush (v := (6 : Int32)) ri_3_37 rfl (by decide) ?_
  refine rs_newa (c := 21) (k := 16) (n := 6) (c1 := 5) (c2 := 489) ri_3_39 rfl rfl (by decide) (by decide) (by decide) rfl (by decide) (by decide +kernel) rfl rfl (by decide) (by decide) ?_
  show ro_w X _ 3 _ 41 [(0, .ref 16)] [.ref 21, .ref 16] ro_k36 (5, 489)
  refine rs_pf (M2 := ro_k37) ri_3_41 rfl (by decide) (by decide +kernel) (fun _ => by decide +kernel) (fun f h => h) ?_
  refine rs_ret ri_3_44 rm_3.2.1 (by decide) ?_
  exact ⟨rfl, rfl⟩
def ro_k38 : ro_Mm := ro_sR ro_k37 4 1 (.ref 16)
def ro_k39 : ro_Mm := ro_new ro_k38 (21, 6)
def ro_k40 : ro_Mm := ro_sR ro_k39 4 2 (.ref 22)
def ro_k41 : ro_Mm := ro_new ro_k40 (9, 4)
def ro_k42 : ro_Mm := ro_new ro_k41 (17, 60)
def ro_k43 : ro_Mm := ro_sR ro_k42 23 0 (.ref 24)
def ro_k44 : ro_Mm := ro_sI ro_k43 23 1 (-2 : Int32)
set_option maxRecDepth 20000 in
/-- RefusedOnce$Shelf.<init> -/
theorem ci_5 {X : ro_Sx} : ro_cwp X 1 4 [.ref 23] ro_k41 (fun v M2 => v = none ∧ M2 = ro_k44) := by
  refine rs_begin (lv0 := [(0, .ref 23)]) (by decide) rfl (by rw [rm_4.1]; exact Nat.le_of_ble_eq_true rfl) rfl ?_
  refine rs_aload_n ri_4_0 rfl rfl ?_
  refine rs_obj ri_4_1 rfl (Nat.le_of_ble_eq_true rfl) ?_
  refine rs_aload_n ri_4_4 rfl rfl ?_
  refine rs_bipush (v := (60 : Int32)) ri_4_5 rfl (by decide) ?_
  refine rs_newa (c := 24) (k := 17) (n := 60) (c1 := 1) (c2 := 60) ri_4_7 rfl rfl (by decide) (by decide) (by decide) rfl (by decide) (by decide +kernel) rfl rfl (by decide) (by decide) ?_
  show ro_w X _ 4 _ 9 [(0, .ref 23)] [.ref 24, .ref 23] ro_k42 (1, 60)
  refine rs_pf (M2 := ro_k43) ri_4_9 rfl (by decide) (by decide +kernel) (fun _ => by decide +kernel) (fun f h => h) ?_
  refine rs_aload_n ri_4_12 rfl rfl ?_
  refine rs_bipush (v := (-2 : Int32)) ri_4_13 rfl (by decide) ?_
  refine rs_pf (M2 := ro_k44) ri_4_15 rfl (by decide) (by decide +kernel) (fun _ => by decide +kernel) (fun f h => h) ?_
  refine rs_ret ri_4_18 rm_4.2.1 (by decide) ?_
  exact ⟨rfl, rfl⟩
def ro_k45 : ro_Mm := ro_sR ro_k44 22 0 (.ref 23)
def ro_k46 : ro_Mm := ro_new ro_k45 (9, 4)
def ro_k47 : ro_Mm := ro_new ro_k46 (17, 60)
def ro_k48 : ro_Mm := ro_sR ro_k47 25 0 (.ref 26)
def ro_k49 : ro_Mm := ro_sI ro_k48 25 1 (-2 : Int32)
set_option maxRecDepth 20000 in
/-- RefusedOnce$Shelf.<init> -/
theorem ci_6 {X : ro_Sx} : ro_cwp X 1 4 [.ref 25] ro_k46 (fun v M2 => v = none ∧ M2 = ro_k49) := by
  refine rs_begin (lv0 := [(0, .ref 25)]) (by decide) rfl (by rw [rm_4.1]; exact Nat.le_of_ble_eq_true rfl) rfl ?_
  refine rs_aload_n ri_4_0 rfl rfl ?_
  refine rs_obj ri_4_1 rfl (Nat.le_of_ble_eq_true rfl) ?_
  refine rs_aload_n ri_4_4 rfl rfl ?_
  refine rs_bipush (v := (60 : Int32)) ri_4_5 rfl (by decide) ?_
  refine rs_newa (c := 26) (k := 17) (n := 60) (c1 := 1) (c2 := 60) ri_4_7 rfl rfl (by decide) (by decide) (by decide) rfl (by decide) (by decide +kernel) rfl rfl (by decide) (by decide) ?_
  show ro_w X _ 4 _ 9 [(0, .ref 25)] [.ref 26, .ref 25] ro_k47 (1, 60)
  refine rs_pf (M2 := ro_k48) ri_4_9 rfl (by decide) (by decide +kernel) (fun _ => by decide +kernel) (fun f h => h) ?_
  refine rs_aload_n ri_4_12 rfl rfl ?_
  refine rs_bipush (v := (-2 : Int32)) ri_4_13 rfl (by decide) ?_
  refine rs_pf (M2 := ro_k49) ri_4_15 rfl (by decide) (by decide +kernel) (fun _ => by decide +kernel) (fun f h => h) ?_
  refine rs_ret ri_4_18 rm_4.2.1 (by decide) ?_
  exact ⟨rfl, rfl⟩
def ro_k50 : ro_Mm := ro_sR ro_k49 22 1 (.ref 25)
def ro_k51 : ro_Mm := ro_new ro_k50 (9, 4)
def ro_k52 : ro_Mm := ro_new ro_k51 (17, 60)
def ro_k53 : ro_Mm := ro_sR ro_k52 27 0 (.ref 28)
def ro_k54 : ro_Mm := ro_sI ro_k53 27 1 (-2 : Int32)
set_option maxRecDepth 20000 in
/-- RefusedOnce$Shelf.<init> -/
theorem ci_7 {X : ro_Sx} : ro_cwp X 1 4 [.ref 27] ro_k51 (fun v M2 => v = none ∧ M2 = ro_k54) := by
  refine rs_begin (lv0 := [(0, .ref 27)]) (by decide) rfl (by rw [rm_4.1]; exact Nat.le_of_ble_eq_true rfl) rfl ?_
  refine rs_aload_n ri_4_0 rfl rfl ?_
  refine rs_obj ri_4_1 rfl (Nat.le_of_ble_eq_true rfl) ?_
  refine rs_aload_n ri_4_4 rfl rfl ?_
  refine rs_bipush (v := (60 : Int32)) ri_4_5 rfl (by decide) ?_
  refine rs_newa (c := 28) (k := 17) (n := 60) (c1 := 1) (c2 := 60) ri_4_7 rfl rfl (by decide) (by decide) (by decide) rfl (by decide) (by decide +kernel) rfl rfl (by decide) (by decide) ?_
  show ro_w X _ 4 _ 9 [(0, .ref 27)] [.ref 28, .ref 27] ro_k52 (1, 60)
  refine rs_pf (M2 := ro_k53) ri_4_9 rfl (by decide) (by decide +kernel) (fun _ => by decide +kernel) (fun f h => h) ?_
  refine rs_aload_n ri_4_12 rfl rfl ?_
  refine rs_bipush (v := (-2 : Int32)) ri_4_13 rfl (by decide) ?_
  refine rs_pf (M2 := ro_k54) ri_4_15 rfl (by decide) (by decide +kernel) (fun _ => by decide +kernel) (fun f h => h) ?_
  refine rs_ret ri_4_18 rm_4.2.1 (by decide) ?_
  exact ⟨rfl, rfl⟩
def ro_k55 : ro_Mm := ro_sR ro_k54 22 2 (.ref 27)
def ro_k56 : ro_Mm := ro_new ro_k55 (9, 4)
def ro_k57 : ro_Mm := ro_new ro_k56 (17, 60)
def ro_k58 : ro_Mm := ro_sR ro_k57 29 0 (.ref 30)
def ro_k59 : ro_Mm := ro_sI ro_k58 29 1 (-2 : Int32)
set_option maxRecDepth 20000 in
/-- RefusedOnce$Shelf.<init> -/
theorem ci_8 {X : ro_Sx} : ro_cwp X 1 4 [.ref 29] ro_k56 (fun v M2 => v = none ∧ M2 = ro_k59) := by
  refine rs_begin (lv0 := [(0, .ref 29)]) (by decide) rfl (by rw [rm_4.1]; exact Nat.le_of_ble_eq_true rfl) rfl ?_
  refine rs_aload_n ri_4_0 rfl rfl ?_
  refine rs_obj ri_4_1 rfl (Nat.le_of_ble_eq_true rfl) ?_
  refine rs_aload_n ri_4_4 rfl rfl ?_
  refine rs_bipush (v := (60 : Int32)) ri_4_5 rfl (by decide) ?_
  refine rs_newa (c := 30) (k := 17) (n := 60) (c1 := 1) (c2 := 60) ri_4_7 rfl rfl (by decide) (by decide) (by decide) rfl (by decide) (by decide +kernel) rfl rfl (by decide) (by decide) ?_
  show ro_w X _ 4 _ 9 [(0, .ref 29)] [.ref 30, .ref 29] ro_k57 (1, 60)
  refine rs_pf (M2 := ro_k58) ri_4_9 rfl (by decide) (by decide +kernel) (fun _ => by decide +kernel) (fun f h => h) ?_
  refine rs_aload_n ri_4_12 rfl rfl ?_
  refine rs_bipush (v := (-2 : Int32)) ri_4_13 rfl (by decide) ?_
  refine rs_pf (M2 := ro_k59) ri_4_15 rfl (by decide) (by decide +kernel) (fun _ => by decide +kernel) (fun f h => h) ?_
  refine rs_ret ri_4_18 rm_4.2.1 (by decide) ?_
  exact ⟨rfl, rfl⟩
def ro_k60 : ro_Mm := ro_sR ro_k59 22 3 (.ref 29)
def ro_k61 : ro_Mm := ro_new ro_k60 (9, 4)
def ro_k62 : ro_Mm := ro_new ro_k61 (17, 60)
def ro_k63 : ro_Mm := ro_sR ro_k62 31 0 (.ref 32)
def ro_k64 : ro_Mm := ro_sI ro_k63 31 1 (-2 : Int32)
set_option maxRecDepth 20000 in
/-- RefusedOnce$Shelf.<init> -/
theorem ci_9 {X : ro_Sx} : ro_cwp X 1 4 [.ref 31] ro_k61 (fun v M2 => v = none ∧ M2 = ro_k64) := by
  refine rs_begin (lv0 := [(0, .ref 31)]) (by decide) rfl (by rw [rm_4.1]; exact Nat.le_of_ble_eq_true rfl) rfl ?_
  refine rs_aload_n ri_4_0 rfl rfl ?_
  refine rs_obj ri_4_1 rfl (Nat.le_of_ble_eq_true rfl) ?_
  refine rs_aload_n ri_4_4 rfl rfl ?_
  refine rs_bipush (v := (60 : Int32)) ri_4_5 rfl (by decide) ?_
  refine rs_newa (c := 32) (k := 17) (n := 60) (c1 := 1) (c2 := 60) ri_4_7 rfl rfl (by decide) (by decide) (by decide) rfl (by decide) (by decide +kernel) rfl rfl (by decide) (by decide) ?_
  show ro_w X _ 4 _ 9 [(0, .ref 31)] [.ref 32, .ref 31] ro_k62 (1, 60)
  refine rs_pf (M2 := ro_k63) ri_4_9 rfl (by decide) (by decide +kernel) (fun _ => by decide +kernel) (fun f h => h) ?_
  refine rs_aload_n ri_4_12 rfl rfl ?_
  refine rs_bipush (v := (-2 : Int32)) ri_4_13 rfl (by decide) ?_
  refine rs_pf (M2 := ro_k64) ri_4_15 rfl (by decide) (by decide +kernel) (fun _ => by decide +kernel) (fun f h => h) ?_
  refine rs_ret ri_4_18 rm_4.2.1 (by decide) ?_
  exact ⟨rfl, rfl⟩
def ro_k65 : ro_Mm := ro_sR ro_k64 22 4 (.ref 31)
def ro_k66 : ro_Mm := ro_new ro_k65 (9, 4)
def ro_k67 : ro_Mm := ro_new ro_k66 (17, 60)
def ro_k68 : ro_Mm := ro_sR ro_k67 33 0 (.ref 34)
def ro_k69 : ro_Mm := ro_sI ro_k68 33 1 (-2 : Int32)
set_option maxRecDepth 20000 in
/-- RefusedOnce$Shelf.<init> -/
theorem ci_10 {X : ro_Sx} : ro_cwp X 1 4 [.ref 33] ro_k66 (fun v M2 => v = none ∧ M2 = ro_k69) := by
  refine rs_begin (lv0 := [(0, .ref 33)]) (by decide) rfl (by rw [rm_4.1]; exact Nat.le_of_ble_eq_true rfl) rfl ?_
  refine rs_aload_n ri_4_0 rfl rfl ?_
  refine rs_obj ri_4_1 rfl (Nat.le_of_ble_eq_true rfl) ?_
  refine rs_aload_n ri_4_4 rfl rfl ?_
  refine rs_bipush (v := (60 : Int32)) ri_4_5 rfl (by decide) ?_
  refine rs_newa (c := 34) (k := 17) (n := 60) (c1 := 1) (c2 := 60) ri_4_7 rfl rfl (by decide) (by decide) (by decide) rfl (by decide) (by decide +kernel) rfl rfl (by decide) (by decide) ?_
  show ro_w X _ 4 _ 9 [(0, .ref 33)] [.ref 34, .ref 33] ro_k67 (1, 60)
  refine rs_pf (M2 := ro_k68) ri_4_9 rfl (by decide) (by decide +kernel) (fun _ => by decide +kernel) (fun f h => h) ?_
  refine rs_aload_n ri_4_12 rfl rfl ?_
  refine rs_bipush (v := (-2 : Int32)) ri_4_13 rfl (by decide) ?_
  refine rs_pf (M2 := ro_k69) ri_4_15 rfl (by decide) (by decide +kernel) (fun _ => by decide +kernel) (fun f h => h) ?_
  refine rs_ret ri_4_18 rm_4.2.1 (by decide) ?_
  exact ⟨rfl, rfl⟩
def ro_k70 : ro_Mm := ro_sR ro_k69 22 5 (.ref 33)
def ro_k71 : ro_Mm := ro_new ro_k70 (3, 11)
def ro_k72 : ro_Mm := ro_new ro_k71 (8, 2)
def ro_k73 : ro_Mm := ro_new ro_k72 (16, 6)
def ro_k74 : ro_Mm := ro_sR ro_k73 36 0 (.ref 37)
def ro_k75 : ro_Mm := ro_new ro_k74 (16, 6)
def ro_k76 : ro_Mm := ro_sR ro_k75 36 1 (.ref 38)
set_option maxRecDepth 20000 in
/-- RefusedOnce$Purses.<init> -/
theorem ci_11 {X : ro_Sx} : ro_cwp X 1 2 [.ref 36] ro_k72 (fun v M2 => v = none ∧ M2 = ro_k76) := by
  refine rs_begin (lv0 := [(0, .ref 36)]) (by decide) rfl (by rw [rm_2.1]; exact Nat.le_of_ble_eq_true rfl) rfl ?_
  refine rs_aload_n ri_2_0 rfl rfl ?_
  refine rs_obj ri_2_1 rfl (Nat.le_of_ble_eq_true rfl) ?_
  refine rs_aload_n ri_2_4 rfl rfl ?_
  refine rs_bipush (v := (6 : Int32)) ri_2_5 rfl (by decide) ?_
  refine rs_newa (c := 37) (k := 16) (n := 6) (c1 := 1) (c2 := 6) ri_2_7 rfl rfl (by decide) (by decide) (by decide) rfl (by decide) (by decide +kernel) rfl rfl (by decide) (by decide) ?_
  show ro_w X _ 2 _ 9 [(0, .ref 36)] [.ref 37, .ref 36] ro_k73 (1, 6)
  refine rs_pf (M2 := ro_k74) ri_2_9 rfl (by decide) (by decide +kernel) (fun _ => by decide +kernel) (fun f h => h) ?_
  refine rs_aload_n ri_2_12 rfl rfl ?_
  refine rs_bipush (v := (6 : Int32)) ri_2_13 rfl (by decide) ?_
  refine rs_newa (c := 38) (k := 16) (n := 6) (c1 := 2) (c2 := 12) ri_2_15 rfl rfl (by decide) (by decide) (by decide) rfl (by decide) (by decide +kernel) rfl rfl (by decide) (by decide) ?_
  show ro_w X _ 2 _ 17 [(0, .ref 36)] [.ref 38, .ref 36] ro_k75 (2, 12)
  refine rs_pf (M2 := ro_k76) ri_2_17 rfl (by decide) (by decide +kernel) (fun _ => by decide +kernel) (fun f h => h) ?_
  refine rs_ret ri_2_20 rm_2.2.1 (by decide) ?_
  exact ⟨rfl, rfl⟩
def ro_k77 : ro_Mm := ro_sR ro_k76 35 2 (.ref 36)
def ro_k78 : ro_Mm := ro_new ro_k77 (16, 20)
def ro_k79 : ro_Mm := ro_sR ro_k78 35 3 (.ref 39)
def ro_k80 : ro_Mm := ro_new ro_k79 (16, 20)
def ro_k81 : ro_Mm := ro_sR ro_k80 35 4 (.ref 40)
def ro_k82 : ro_Mm := ro_new ro_k81 (16, 20)
def ro_k83 : ro_Mm := ro_sR ro_k82 35 5 (.ref 41)
def ro_k84 : ro_Mm := ro_sR ro_k83 35 0 (.ref 5)
def ro_k85 : ro_Mm := ro_sR ro_k84 35 1 (.ref 16)
set_option maxRecDepth 20000 in
/-- RefusedOnce$Evening.<init> -/
theorem ci_12 {X : ro_Sx} : ro_cwp X 2 5 [.ref 35, .ref 5, .ref 16] ro_k71 (fun v M2 => v = none ∧ M2 = ro_k85) := by
  refine rs_begin (lv0 := [(0, .ref 35), (1, .ref 5), (2, .ref 16)]) (by decide) rfl (by rw [rm_5.1]; exact Nat.le_of_ble_eq_true rfl) rfl ?_
  refine rs_aload_n ri_5_0 rfl rfl ?_
  refine rs_obj ri_5_1 rfl (Nat.le_of_ble_eq_true rfl) ?_
  refine rs_aload_n ri_5_4 rfl rfl ?_
  refine rs_new (c := 36) (c1 := 1) (c2 := 2) ri_5_5 rfl rfl rfl (by decide +kernel) rfl rfl (by decide) (by decide) ?_
  show ro_w X _ 5 _ 8 [(0, .ref 35), (1, .ref 5), (2, .ref 16)] [.ref 36, .ref 35] ro_k72 (1, 2)
  refine rs_dup ri_5_8 rfl rfl ?_
  refine rs_spec (As := []) (r := [.ref 36, .ref 35]) (c1 := 3) (c2 := 14) ri_5_9 (by decide) rfl rm_2.2.2.2 rfl rfl (Nat.le_of_ble_eq_true rfl) rfl rfl rfl rfl (by decide) (by decide) (by decide) ci_11 ?_
  rintro _ _ ⟨e1, e2⟩
  rw [e1, e2]
  show ro_w X _ 5 _ 12 [(0, .ref 35), (1, .ref 5), (2, .ref 16)] [.ref 36, .ref 35] ro_k76 (3, 14)
  refine rs_pf (M2 := ro_k77) ri_5_12 rfl (by decide) (by decide +kernel) (fun _ => by decide +kernel) (fun f h => h) ?_
  refine rs_aload_n ri_5_15 rfl rfl ?_
  refine rs_bipush (v := (20 : Int32)) ri_5_16 rfl (by decide) ?_
  refine rs_newa (c := 39) (k := 16) (n := 20) (c1 := 4) (c2 := 34) ri_5_18 rfl rfl (by decide) (by decide) (by decide) rfl (by decide) (by decide +kernel) rfl rfl (by decide) (by decide) ?_
  show ro_w X _ 5 _ 20 [(0, .ref 35), (1, .ref 5), (2, .ref 16)] [.ref 39, .ref 35] ro_k78 (4, 34)
  refine rs_pf (M2 := ro_k79) ri_5_20 rfl (by decide) (by decide +kernel) (fun _ => by decide +kernel) (fun f h => h) ?_
  refine rs_aload_n ri_5_23 rfl rfl ?_
  refine rs_bipush (v := (20 : Int32)) ri_5_24 rfl (by decide) ?_
  refine rs_newa (c := 40) (k := 16) (n := 20) (c1 := 5) (c2 := 54) ri_5_26 rfl rfl (by decide) (by decide) (by decide) rfl (by decide) (by decide +kernel) rfl rfl (by decide) (by decide) ?_
  show ro_w X _ 5 _ 28 [(0, .ref 35), (1, .ref 5), (2, .ref 16)] [.ref 40, .ref 35] ro_k80 (5, 54)
  refine rs_pf (M2 := ro_k81) ri_5_28 rfl (by decide) (by decide +kernel) (fun _ => by decide +kernel) (fun f h => h) ?_
  refine rs_aload_n ri_5_31 rfl rfl ?_
  refine rs_bipush (v := (20 : Int32)) ri_5_32 rfl (by decide) ?_
  refine rs_newa (c := 41) (k := 16) (n := 20) (c1 := 6) (c2 := 74) ri_5_34 rfl rfl (by decide) (by decide) (by decide) rfl (by decide) (by decide +kernel) rfl rfl (by decide) (by decide) ?_
  show ro_w X _ 5 _ 36 [(0, .ref 35), (1, .ref 5), (2, .ref 16)] [.ref 41, .ref 35] ro_k82 (6, 74)
  refine rs_pf (M2 := ro_k83) ri_5_36 rfl (by decide) (by decide +kernel) (fun _ => by decide +kernel) (fun f h => h) ?_
  refine rs_aload_n ri_5_39 rfl rfl ?_
  refine rs_aload_n ri_5_40 rfl rfl ?_
  refine rs_pf (M2 := ro_k84) ri_5_41 rfl (by decide) (by decide +kernel) (fun _ => by decide +kernel) (fun f h => h) ?_
  refine rs_aload_n ri_5_44 rfl rfl ?_
  refine rs_aload_n ri_5_45 rfl rfl ?_
  refine rs_pf (M2 := ro_k85) ri_5_46 rfl (by decide) (by decide +kernel) (fun _ => by decide +kernel) (fun f h => h) ?_
  refine rs_ret ri_5_49 rm_5.2.1 (by decide) ?_
  exact ⟨rfl, rfl⟩
def ro_k86 : ro_Mm := ro_sR ro_k85 4 3 (.ref 35)
def ro_k87 : ro_Mm := ro_new ro_k86 (7, 10)
def ro_k88 : ro_Mm := ro_new ro_k87 (8, 2)
def ro_k89 : ro_Mm := ro_new ro_k88 (16, 6)
def ro_k90 : ro_Mm := ro_sR ro_k89 43 0 (.ref 44)
def ro_k91 : ro_Mm := ro_new ro_k90 (16, 6)
def ro_k92 : ro_Mm := ro_sR ro_k91 43 1 (.ref 45)
set_option maxRecDepth 20000 in
/-- RefusedOnce$Purses.<init> -/
theorem ci_13 {X : ro_Sx} : ro_cwp X 1 2 [.ref 43] ro_k88 (fun v M2 => v = none ∧ M2 = ro_k92) := by
  refine rs_begin (lv0 := [(0, .ref 43)]) (by decide) rfl (by rw [rm_2.1]; exact Nat.le_of_ble_eq_true rfl) rfl ?_
  refine rs_aload_n ri_2_0 rfl rfl ?_
  refine rs_obj ri_2_1 rfl (Nat.le_of_ble_eq_true rfl) ?_
  refine rs_aload_n ri_2_4 rfl rfl ?_
  refine rs_bipush (v := (6 : Int32)) ri_2_5 rfl (by decide) ?_
  refine rs_newa (c := 44) (k := 16) (n := 6) (c1 := 1) (c2 := 6) ri_2_7 rfl rfl (by decide) (by decide) (by decide) rfl (by decide) (by decide +kernel) rfl rfl (by decide) (by decide) ?_
  show ro_w X _ 2 _ 9 [(0, .ref 43)] [.ref 44, .ref 43] ro_k89 (1, 6)
  refine rs_pf (M2 := ro_k90) ri_2_9 rfl (by decide) (by decide +kernel) (fun _ => by decide +kernel) (fun f h => h) ?_
  refine rs_aload_n ri_2_12 rfl rfl ?_
  refine rs_bipush (v := (6 : Int32)) ri_2_13 rfl (by decide) ?_
  refine rs_newa (c := 45) (k := 16) (n := 6) (c1 := 2) (c2 := 12) ri_2_15 rfl rfl (by decide) (by decide) (by decide) rfl (by decide) (by decide +kernel) rfl rfl (by decide) (by decide) ?_
  show ro_w X _ 2 _ 17 [(0, .ref 43)] [.ref 45, .ref 43] ro_k91 (2, 12)
  refine rs_pf (M2 := ro_k92) ri_2_17 rfl (by decide) (by decide +kernel) (fun _ => by decide +kernel) (fun f h => h) ?_
  refine rs_ret ri_2_20 rm_2.2.1 (by decide) ?_
  exact ⟨rfl, rfl⟩
def ro_k93 : ro_Mm := ro_sR ro_k92 42 2 (.ref 43)
def ro_k94 : ro_Mm := ro_new ro_k93 (16, 10)
def ro_k95 : ro_Mm := ro_sR ro_k94 42 3 (.ref 46)
def ro_k96 : ro_Mm := ro_new ro_k95 (16, 10)
def ro_k97 : ro_Mm := ro_sR ro_k96 42 4 (.ref 47)
def ro_k98 : ro_Mm := ro_sR ro_k97 42 0 (.ref 5)
def ro_k99 : ro_Mm := ro_sR ro_k98 42 1 (.ref 16)
set_option maxRecDepth 20000 in
/-- RefusedOnce$Payings.<init> -/
theorem ci_14 {X : ro_Sx} : ro_cwp X 2 6 [.ref 42, .ref 5, .ref 16] ro_k87 (fun v M2 => v = none ∧ M2 = ro_k99) := by
  refine rs_begin (lv0 := [(0, .ref 42), (1, .ref 5), (2, .ref 16)]) (by decide) rfl (by rw [rm_6.1]; exact Nat.le_of_ble_eq_true rfl) rfl ?_
  refine rs_aload_n ri_6_0 rfl rfl ?_
  refine rs_obj ri_6_1 rfl (Nat.le_of_ble_eq_true rfl) ?_
  refine rs_aload_n ri_6_4 rfl rfl ?_
  refine rs_new (c := 43) (c1 := 1) (c2 := 2) ri_6_5 rfl rfl rfl (by decide +kernel) rfl rfl (by decide) (by decide) ?_
  show ro_w X _ 6 _ 8 [(0, .ref 42), (1, .ref 5), (2, .ref 16)] [.ref 43, .ref 42] ro_k88 (1, 2)
  refine rs_dup ri_6_8 rfl rfl ?_
  refine rs_spec (As := []) (r := [.ref 43, .ref 42]) (c1 := 3) (c2 := 14) ri_6_9 (by decide) rfl rm_2.2.2.2 rfl rfl (Nat.le_of_ble_eq_true rfl) rfl rfl rfl rfl (by decide) (by decide) (by decide) ci_13 ?_
  rintro _ _ ⟨e1, e2⟩
  rw [e1, e2]
  show ro_w X _ 6 _ 12 [(0, .ref 42), (1, .ref 5), (2, .ref 16)] [.ref 43, .ref 42] ro_k92 (3, 14)
  refine rs_pf (M2 := ro_k93) ri_6_12 rfl (by decide) (by decide +kernel) (fun _ => by decide +kernel) (fun f h => h) ?_
  refine rs_aload_n ri_6_15 rfl rfl ?_
  refine rs_bipush (v := (10 : Int32)) ri_6_16 rfl (by decide) ?_
  refine rs_newa (c := 46) (k := 16) (n := 10) (c1 := 4) (c2 := 24) ri_6_18 rfl rfl (by decide) (by decide) (by decide) rfl (by decide) (by decide +kernel) rfl rfl (by decide) (by decide) ?_
  show ro_w X _ 6 _ 20 [(0, .ref 42), (1, .ref 5), (2, .ref 16)] [.ref 46, .ref 42] ro_k94 (4, 24)
  refine rs_pf (M2 := ro_k95) ri_6_20 rfl (by decide) (by decide +kernel) (fun _ => by decide +kernel) (fun f h => h) ?_
  refine rs_aload_n ri_6_23 rfl rfl ?_
  refine rs_bipush (v := (10 : Int32)) ri_6_24 rfl (by decide) ?_
  refine rs_newa (c := 47) (k := 16) (n := 10) (c1 := 5) (c2 := 34) ri_6_26 rfl rfl (by decide) (by decide) (by decide) rfl (by decide) (by decide +kernel) rfl rfl (by decide) (by decide) ?_
  show ro_w X _ 6 _ 28 [(0, .ref 42), (1, .ref 5), (2, .ref 16)] [.ref 47, .ref 42] ro_k96 (5, 34)
  refine rs_pf (M2 := ro_k97) ri_6_28 rfl (by decide) (by decide +kernel) (fun _ => by decide +kernel) (fun f h => h) ?_
  refine rs_aload_n ri_6_31 rfl rfl ?_
  refine rs_aload_n ri_6_32 rfl rfl ?_
  refine rs_pf (M2 := ro_k98) ri_6_33 rfl (by decide) (by decide +kernel) (fun _ => by decide +kernel) (fun f h => h) ?_
  refine rs_aload_n ri_6_36 rfl rfl ?_
  refine rs_aload_n ri_6_37 rfl rfl ?_
  refine rs_pf (M2 := ro_k99) ri_6_38 rfl (by decide) (by decide +kernel) (fun _ => by decide +kernel) (fun f h => h) ?_
  refine rs_ret ri_6_41 rm_6.2.1 (by decide) ?_
  exact ⟨rfl, rfl⟩
def ro_k100 : ro_Mm := ro_sR ro_k99 4 4 (.ref 42)
def ro_k101 : ro_Mm := ro_new ro_k100 (1, 9)
def ro_k102 : ro_Mm := ro_new ro_k101 (8, 2)
def ro_k103 : ro_Mm := ro_new ro_k102 (16, 6)
def ro_k104 : ro_Mm := ro_sR ro_k103 49 0 (.ref 50)
def ro_k105 : ro_Mm := ro_new ro_k104 (16, 6)
def ro_k106 : ro_Mm := ro_sR ro_k105 49 1 (.ref 51)
set_option maxRecDepth 20000 in
/-- RefusedOnce$Purses.<init> -/
theorem ci_15 {X : ro_Sx} : ro_cwp X 1 2 [.ref 49] ro_k102 (fun v M2 => v = none ∧ M2 = ro_k106) := by
  refine rs_begin (lv0 := [(0, .ref 49)]) (by decide) rfl (by rw [rm_2.1]; exact Nat.le_of_ble_eq_true rfl) rfl ?_
  refine rs_aload_n ri_2_0 rfl rfl ?_
  refine rs_obj ri_2_1 rfl (Nat.le_of_ble_eq_true rfl) ?_
  refine rs_aload_n ri_2_4 rfl rfl ?_
  refine rs_bipush (v := (6 : Int32)) ri_2_5 rfl (by decide) ?_
  refine rs_newa (c := 50) (k := 16) (n := 6) (c1 := 1) (c2 := 6) ri_2_7 rfl rfl (by decide) (by decide) (by decide) rfl (by decide) (by decide +kernel) rfl rfl (by decide) (by decide) ?_
  show ro_w X _ 2 _ 9 [(0, .ref 49)] [.ref 50, .ref 49] ro_k103 (1, 6)
  refine rs_pf (M2 := ro_k104) ri_2_9 rfl (by decide) (by decide +kernel) (fun _ => by decide +kernel) (fun f h => h) ?_
  refine rs_aload_n ri_2_12 rfl rfl ?_
  refine rs_bipush (v := (6 : Int32)) ri_2_13 rfl (by decide) ?_
  refine rs_newa (c := 51) (k := 16) (n := 6) (c1 := 2) (c2 := 12) ri_2_15 rfl rfl (by decide) (by decide) (by decide) rfl (by decide) (by decide +kernel) rfl rfl (by decide) (by decide) ?_
  show ro_w X _ 2 _ 17 [(0, .ref 49)] [.ref 51, .ref 49] ro_k105 (2, 12)
  refine rs_pf (M2 := ro_k106) ri_2_17 rfl (by decide) (by decide +kernel) (fun _ => by decide +kernel) (fun f h => h) ?_
  refine rs_ret ri_2_20 rm_2.2.1 (by decide) ?_
  exact ⟨rfl, rfl⟩
def ro_k107 : ro_Mm := ro_sR ro_k106 48 2 (.ref 49)
def ro_k108 : ro_Mm := ro_new ro_k107 (17, 9)
def ro_k109 : ro_Mm := ro_sR ro_k108 48 3 (.ref 52)
def ro_k110 : ro_Mm := ro_new ro_k109 (17, 9)
def ro_k111 : ro_Mm := ro_sR ro_k110 48 4 (.ref 53)
def ro_k112 : ro_Mm := ro_sJ ro_k111 48 6 (1 : Int64)
def ro_k113 : ro_Mm := ro_sR ro_k112 48 0 (.ref 5)
def ro_k114 : ro_Mm := ro_sR ro_k113 48 1 (.ref 16)
set_option maxRecDepth 20000 in
/-- RefusedOnce$Chances.<init> -/
theorem ci_16 {X : ro_Sx} : ro_cwp X 2 7 [.ref 48, .ref 5, .ref 16] ro_k101 (fun v M2 => v = none ∧ M2 = ro_k114) := by
  refine rs_begin (lv0 := [(0, .ref 48), (1, .ref 5), (2, .ref 16)]) (by decide) rfl (by rw [rm_7.1]; exact Nat.le_of_ble_eq_true rfl) rfl ?_
  refine rs_aload_n ri_7_0 rfl rfl ?_
  refine rs_obj ri_7_1 rfl (Nat.le_of_ble_eq_true rfl) ?_
  refine rs_aload_n ri_7_4 rfl rfl ?_
  refine rs_new (c := 49) (c1 := 1) (c2 := 2) ri_7_5 rfl rfl rfl (by decide +kernel) rfl rfl (by decide) (by decide) ?_
  show ro_w X _ 7 _ 8 [(0, .ref 48), (1, .ref 5), (2, .ref 16)] [.ref 49, .ref 48] ro_k102 (1, 2)
  refine rs_dup ri_7_8 rfl rfl ?_
  refine rs_spec (As := []) (r := [.ref 49, .ref 48]) (c1 := 3) (c2 := 14) ri_7_9 (by decide) rfl rm_2.2.2.2 rfl rfl (Nat.le_of_ble_eq_true rfl) rfl rfl rfl rfl (by decide) (by decide) (by decide) ci_15 ?_
  rintro _ _ ⟨e1, e2⟩
  rw [e1, e2]
  show ro_w X _ 7 _ 12 [(0, .ref 48), (1, .ref 5), (2, .ref 16)] [.ref 49, .ref 48] ro_k106 (3, 14)
  refine rs_pf (M2 := ro_k107) ri_7_12 rfl (by decide) (by decide +kernel) (fun _ => by decide +kernel) (fun f h => h) ?_
  refine rs_aload_n ri_7_15 rfl rfl ?_
  refine rs_bipush (v := (9 : Int32)) ri_7_16 rfl (by decide) ?_
  refine rs_newa (c := 52) (k := 17) (n := 9) (c1 := 4) (c2 := 23) ri_7_18 rfl rfl (by decide) (by decide) (by decide) rfl (by decide) (by decide +kernel) rfl rfl (by decide) (by decide) ?_
  show ro_w X _ 7 _ 20 [(0, .ref 48), (1, .ref 5), (2, .ref 16)] [.ref 52, .ref 48] ro_k108 (4, 23)
  refine rs_pf (M2 := ro_k109) ri_7_20 rfl (by decide) (by decide +kernel) (fun _ => by decide +kernel) (fun f h => h) ?_
  refine rs_aload_n ri_7_23 rfl rfl ?_
  refine rs_bipush (v := (9 : Int32)) ri_7_24 rfl (by decide) ?_
  refine rs_newa (c := 53) (k := 17) (n := 9) (c1 := 5) (c2 := 32) ri_7_26 rfl rfl (by decide) (by decide) (by decide) rfl (by decide) (by decide +kernel) rfl rfl (by decide) (by decide) ?_
  show ro_w X _ 7 _ 28 [(0, .ref 48), (1, .ref 5), (2, .ref 16)] [.ref 53, .ref 48] ro_k110 (5, 32)
  refine rs_pf (M2 := ro_k111) ri_7_28 rfl (by decide) (by decide +kernel) (fun _ => by decide +kernel) (fun f h => h) ?_
  refine rs_aload_n ri_7_31 rfl rfl ?_
  refine rs_lconst (v := (1 : Int64)) ri_7_32 rfl rfl ?_
  refine rs_pf (M2 := ro_k112) ri_7_33 rfl (by decide) (by decide +kernel) (fun _ => by decide +kernel) (fun f h => h) ?_
  refine rs_aload_n ri_7_36 rfl rfl ?_
  refine rs_aload_n ri_7_37 rfl rfl ?_
  refine rs_pf (M2 := ro_k113) ri_7_38 rfl (by decide) (by decide +kernel) (fun _ => by decide +kernel) (fun f h => h) ?_
  refine rs_aload_n ri_7_41 rfl rfl ?_
  refine rs_aload_n ri_7_42 rfl rfl ?_
  refine rs_pf (M2 := ro_k114) ri_7_43 rfl (by decide) (by decide +kernel) (fun _ => by decide +kernel) (fun f h => h) ?_
  refine rs_ret ri_7_46 rm_7.2.1 (by decide) ?_
  exact ⟨rfl, rfl⟩
def ro_k115 : ro_Mm := ro_sR ro_k114 4 5 (.ref 48)
def ro_k116 : ro_Mm := ro_new ro_k115 (2, 6)
def ro_k117 : ro_Mm := ro_new ro_k116 (16, 40)
def ro_k118 : ro_Mm := ro_sR ro_k117 54 0 (.ref 55)
def ro_k119 : ro_Mm := ro_new ro_k118 (16, 40)
def ro_k120 : ro_Mm := ro_sR ro_k119 54 1 (.ref 56)
def ro_k121 : ro_Mm := ro_new ro_k120 (16, 40)
def ro_k122 : ro_Mm := ro_sR ro_k121 54 2 (.ref 57)
def ro_k123 : ro_Mm := ro_new ro_k122 (16, 40)
def ro_k124 : ro_Mm := ro_sR ro_k123 54 3 (.ref 58)
set_option maxRecDepth 20000 in
/-- RefusedOnce$Changes.<init> -/
theorem ci_17 {X : ro_Sx} : ro_cwp X 1 8 [.ref 54] ro_k116 (fun v M2 => v = none ∧ M2 = ro_k124) := by
  refine rs_begin (lv0 := [(0, .ref 54)]) (by decide) rfl (by rw [rm_8.1]; exact Nat.le_of_ble_eq_true rfl) rfl ?_
  refine rs_aload_n ri_8_0 rfl rfl ?_
  refine rs_obj ri_8_1 rfl (Nat.le_of_ble_eq_true rfl) ?_
  refine rs_aload_n ri_8_4 rfl rfl ?_
  refine rs_bipush (v := (40 : Int32)) ri_8_5 rfl (by decide) ?_
  refine rs_newa (c := 55) (k := 16) (n := 40) (c1 := 1) (c2 := 40) ri_8_7 rfl rfl (by decide) (by decide) (by decide) rfl (by decide) (by decide +kernel) rfl rfl (by decide) (by decide) ?_
  show ro_w X _ 8 _ 9 [(0, .ref 54)] [.ref 55, .ref 54] ro_k117 (1, 40)
  refine rs_pf (M2 := ro_k118) ri_8_9 rfl (by decide) (by decide +kernel) (fun _ => by decide +kernel) (fun f h => h) ?_
  refine rs_aload_n ri_8_12 rfl rfl ?_
  refine rs_bipush (v := (40 : Int32)) ri_8_13 rfl (by decide) ?_
  refine rs_newa (c := 56) (k := 16) (n := 40) (c1 := 2) (c2 := 80) ri_8_15 rfl rfl (by decide) (by decide) (by decide) rfl (by decide) (by decide +kernel) rfl rfl (by decide) (by decide) ?_
  show ro_w X _ 8 _ 17 [(0, .ref 54)] [.ref 56, .ref 54] ro_k119 (2, 80)
  refine rs_pf (M2 := ro_k120) ri_8_17 rfl (by decide) (by decide +kernel) (fun _ => by decide +kernel) (fun f h => h) ?_
  refine rs_aload_n ri_8_20 rfl rfl ?_
  refine rs_bipush (v := (40 : Int32)) ri_8_21 rfl (by decide) ?_
  refine rs_newa (c := 57) (k := 16) (n := 40) (c1 := 3) (c2 := 120) ri_8_23 rfl rfl (by decide) (by decide) (by decide) rfl (by decide) (by decide +kernel) rfl rfl (by decide) (by decide) ?_
  show ro_w X _ 8 _ 25 [(0, .ref 54)] [.ref 57, .ref 54] ro_k121 (3, 120)
  refine rs_pf (M2 := ro_k122) ri_8_25 rfl (by decide) (by decide +kernel) (fun _ => by decide +kernel) (fun f h => h) ?_
  refine rs_aload_n ri_8_28 rfl rfl ?_
  refine rs_bipush (v := (40 : Int32)) ri_8_29 rfl (by decide) ?_
  refine rs_newa (c := 58) (k := 16) (n := 40) (c1 := 4) (c2 := 160) ri_8_31 rfl rfl (by decide) (by decide) (by decide) rfl (by decide) (by decide +kernel) rfl rfl (by decide) (by decide) ?_
  show ro_w X _ 8 _ 33 [(0, .ref 54)] [.ref 58, .ref 54] ro_k123 (4, 160)
  refine rs_pf (M2 := ro_k124) ri_8_33 rfl (by decide) (by decide +kernel) (fun _ => by decide +kernel) (fun f h => h) ?_
  refine rs_ret ri_8_36 rm_8.2.1 (by decide) ?_
  exact ⟨rfl, rfl⟩
def ro_k125 : ro_Mm := ro_sR ro_k124 4 6 (.ref 54)
def ro_k126 : ro_Mm := ro_new ro_k125 (0, 6)
def ro_k127 : ro_Mm := ro_new ro_k126 (16, 50)
def ro_k128 : ro_Mm := ro_sR ro_k127 59 0 (.ref 60)
def ro_k129 : ro_Mm := ro_new ro_k128 (16, 24)
def ro_k130 : ro_Mm := ro_sR ro_k129 59 1 (.ref 61)
set_option maxRecDepth 20000 in
/-- RefusedOnce$Bodies.<init> -/
theorem ci_18 {X : ro_Sx} : ro_cwp X 1 9 [.ref 59] ro_k126 (fun v M2 => v = none ∧ M2 = ro_k130) := by
  refine rs_begin (lv0 := [(0, .ref 59)]) (by decide) rfl (by rw [rm_9.1]; exact Nat.le_of_ble_eq_true rfl) rfl ?_
  refine rs_aload_n ri_9_0 rfl rfl ?_
  refine rs_obj ri_9_1 rfl (Nat.le_of_ble_eq_true rfl) ?_
  refine rs_aload_n ri_9_4 rfl rfl ?_
  refine rs_bipush (v := (50 : Int32)) ri_9_5 rfl (by decide) ?_
  refine rs_newa (c := 60) (k := 16) (n := 50) (c1 := 1) (c2 := 50) ri_9_7 rfl rfl (by decide) (by decide) (by decide) rfl (by decide) (by decide +kernel) rfl rfl (by decide) (by decide) ?_
  show ro_w X _ 9 _ 9 [(0, .ref 59)] [.ref 60, .ref 59] ro_k127 (1, 50)
  refine rs_pf (M2 := ro_k128) ri_9_9 rfl (by decide) (by decide +kernel) (fun _ => by decide +kernel) (fun f h => h) ?_
  refine rs_aload_n ri_9_12 rfl rfl ?_
  refine rs_bipush (v := (24 : Int32)) ri_9_13 rfl (by decide) ?_
  refine rs_newa (c := 61) (k := 16) (n := 24) (c1 := 2) (c2 := 74) ri_9_15 rfl rfl (by decide) (by decide) (by decide) rfl (by decide) (by decide +kernel) rfl rfl (by decide) (by decide) ?_
  show ro_w X _ 9 _ 17 [(0, .ref 59)] [.ref 61, .ref 59] ro_k129 (2, 74)
  refine rs_pf (M2 := ro_k130) ri_9_17 rfl (by decide) (by decide +kernel) (fun _ => by decide +kernel) (fun f h => h) ?_
  refine rs_ret ri_9_20 rm_9.2.1 (by decide) ?_
  exact ⟨rfl, rfl⟩
def ro_k131 : ro_Mm := ro_sR ro_k130 4 7 (.ref 59)
def ro_k132 : ro_Mm := ro_new ro_k131 (10, 10)
def ro_k133 : ro_Mm := ro_grid ro_k132 21 12
def ro_k134 : ro_Mm := ro_sR ro_k133 62 2 (.ref 63)
def ro_k135 : ro_Mm := ro_grid ro_k134 21 12
def ro_k136 : ro_Mm := ro_sR ro_k135 62 3 (.ref 85)
def ro_k137 : ro_Mm := ro_grid ro_k136 21 12
def ro_k138 : ro_Mm := ro_sR ro_k137 62 4 (.ref 107)
def ro_k139 : ro_Mm := ro_grid ro_k138 21 12
def ro_k140 : ro_Mm := ro_sR ro_k139 62 5 (.ref 129)
def ro_k141 : ro_Mm := ro_new ro_k140 (16, 1024)
def ro_k142 : ro_Mm := ro_sR ro_k141 62 6 (.ref 151)
def ro_k143 : ro_Mm := ro_new ro_k142 (16, 8192)
def ro_k144 : ro_Mm := ro_sR ro_k143 62 7 (.ref 152)
def ro_k145 : ro_Mm := ro_new ro_k144 (6, 5)
def ro_k146 : ro_Mm := ro_new ro_k145 (17, 8192)
def ro_k147 : ro_Mm := ro_sR ro_k146 153 0 (.ref 154)
def ro_k148 : ro_Mm := ro_new ro_k147 (16, 8192)
def ro_k149 : ro_Mm := ro_sR ro_k148 153 1 (.ref 155)
def ro_k150 : ro_Mm := ro_new ro_k149 (16, 8192)
def ro_k151 : ro_Mm := ro_sR ro_k150 153 2 (.ref 156)
def ro_k152 : ro_Mm := ro_new ro_k151 (16, 8192)
def ro_k153 : ro_Mm := ro_sR ro_k152 153 3 (.ref 157)
set_option maxRecDepth 20000 in
/-- RefusedOnce$Level.<init> -/
theorem ci_19 {X : ro_Sx} : ro_cwp X 1 11 [.ref 153] ro_k145 (fun v M2 => v = none ∧ M2 = ro_k153) := by
  refine rs_begin (lv0 := [(0, .ref 153)]) (by decide) rfl (by rw [rm_11.1]; exact Nat.le_of_ble_eq_true rfl) rfl ?_
  refine rs_aload_n ri_11_0 rfl rfl ?_
  refine rs_obj ri_11_1 rfl (Nat.le_of_ble_eq_true rfl) ?_
  refine rs_aload_n ri_11_4 rfl rfl ?_
  refine rs_sipush (v := (8192 : Int32)) ri_11_5 rfl (by decide) ?_
  refine rs_newa (c := 154) (k := 17) (n := 8192) (c1 := 1) (c2 := 8192) ri_11_8 rfl rfl (by decide) (by decide) (by decide) rfl (by decide) (by decide +kernel) rfl rfl (by decide) (by decide) ?_
  show ro_w X _ 11 _ 10 [(0, .ref 153)] [.ref 154, .ref 153] ro_k146 (1, 8192)
  refine rs_pf (M2 := ro_k147) ri_11_10 rfl (by decide) (by decide +kernel) (fun _ => by decide +kernel) (fun f h => h) ?_
  refine rs_aload_n ri_11_13 rfl rfl ?_
  refine rs_sipush (v := (8192 : Int32)) ri_11_14 rfl (by decide) ?_
  refine rs_newa (c := 155) (k := 16) (n := 8192) (c1 := 2) (c2 := 16384) ri_11_17 rfl rfl (by decide) (by decide) (by decide) rfl (by decide) (by decide +kernel) rfl rfl (by decide) (by decide) ?_
  show ro_w X _ 11 _ 19 [(0, .ref 153)] [.ref 155, .ref 153] ro_k148 (2, 16384)
  refine rs_pf (M2 := ro_k149) ri_11_19 rfl (by decide) (by decide +kernel) (fun _ => by decide +kernel) (fun f h => h) ?_
  refine rs_aload_n ri_11_22 rfl rfl ?_
  refine rs_sipush (v := (8192 : Int32)) ri_11_23 rfl (by decide) ?_
  refine rs_newa (c := 156) (k := 16) (n := 8192) (c1 := 3) (c2 := 24576) ri_11_26 rfl rfl (by decide) (by decide) (by decide) rfl (by decide) (by decide +kernel) rfl rfl (by decide) (by decide) ?_
  show ro_w X _ 11 _ 28 [(0, .ref 153)] [.ref 156, .ref 153] ro_k150 (3, 24576)
  refine rs_pf (M2 := ro_k151) ri_11_28 rfl (by decide) (by decide +kernel) (fun _ => by decide +kernel) (fun f h => h) ?_
  refine rs_aload_n ri_11_31 rfl rfl ?_
  refine rs_sipush (v := (8192 : Int32)) ri_11_32 rfl (by decide) ?_
  refine rs_newa (c := 157) (k := 16) (n := 8192) (c1 := 4) (c2 := 32768) ri_11_35 rfl rfl (by decide) (by decide) (by decide) rfl (by decide) (by decide +kernel) rfl rfl (by decide) (by decide) ?_
  show ro_w X _ 11 _ 37 [(0, .ref 153)] [.ref 157, .ref 153] ro_k152 (4, 32768)
  refine rs_pf (M2 := ro_k153) ri_11_37 rfl (by decide) (by decide +kernel) (fun _ => by decide +kernel) (fun f h => h) ?_
  refine rs_ret ri_11_40 rm_11.2.1 (by decide) ?_
  exact ⟨rfl, rfl⟩
def ro_k154 : ro_Mm := ro_sR ro_k153 62 8 (.ref 153)
def ro_k155 : ro_Mm := ro_new ro_k154 (6, 5)
def ro_k156 : ro_Mm := ro_new ro_k155 (17, 8192)
def ro_k157 : ro_Mm := ro_sR ro_k156 158 0 (.ref 159)
def ro_k158 : ro_Mm := ro_new ro_k157 (16, 8192)
def ro_k159 : ro_Mm := ro_sR ro_k158 158 1 (.ref 160)
def ro_k160 : ro_Mm := ro_new ro_k159 (16, 8192)
def ro_k161 : ro_Mm := ro_sR ro_k160 158 2 (.ref 161)
def ro_k162 : ro_Mm := ro_new ro_k161 (16, 8192)
def ro_k163 : ro_Mm := ro_sR ro_k162 158 3 (.ref 162)
set_option maxRecDepth 20000 in
/-- RefusedOnce$Level.<init> -/
theorem ci_20 {X : ro_Sx} : ro_cwp X 1 11 [.ref 158] ro_k155 (fun v M2 => v = none ∧ M2 = ro_k163) := by
  refine rs_begin (lv0 := [(0, .ref 158)]) (by decide) rfl (by rw [rm_11.1]; exact Nat.le_of_ble_eq_true rfl) rfl ?_
  refine rs_aload_n ri_11_0 rfl rfl ?_
  refine rs_obj ri_11_1 rfl (Nat.le_of_ble_eq_true rfl) ?_
  refine rs_aload_n ri_11_4 rfl rfl ?_
  refine rs_sipush (v := (8192 : Int32)) ri_11_5 rfl (by decide) ?_
  refine rs_newa (c := 159) (k := 17) (n := 8192) (c1 := 1) (c2 := 8192) ri_11_8 rfl rfl (by decide) (by decide) (by decide) rfl (by decide) (by decide +kernel) rfl rfl (by decide) (by decide) ?_
  show ro_w X _ 11 _ 10 [(0, .ref 158)] [.ref 159, .ref 158] ro_k156 (1, 8192)
  refine rs_pf (M2 := ro_k157) ri_11_10 rfl (by decide) (by decide +kernel) (fun _ => by decide +kernel) (fun f h => h) ?_
  refine rs_aload_n ri_11_13 rfl rfl ?_
  refine rs_sipush (v := (8192 : Int32)) ri_11_14 rfl (by decide) ?_
  refine rs_newa (c := 160) (k := 16) (n := 8192) (c1 := 2) (c2 := 16384) ri_11_17 rfl rfl (by decide) (by decide) (by decide) rfl (by decide) (by decide +kernel) rfl rfl (by decide) (by decide) ?_
  show ro_w X _ 11 _ 19 [(0, .ref 158)] [.ref 160, .ref 158] ro_k158 (2, 16384)
  refine rs_pf (M2 := ro_k159) ri_11_19 rfl (by decide) (by decide +kernel) (fun _ => by decide +kernel) (fun f h => h) ?_
  refine rs_aload_n ri_11_22 rfl rfl ?_
  refine rs_sipush (v := (8192 : Int32)) ri_11_23 rfl (by decide) ?_
  refine rs_newa (c := 161) (k := 16) (n := 8192) (c1 := 3) (c2 := 24576) ri_11_26 rfl rfl (by decide) (by decide) (by decide) rfl (by decide) (by decide +kernel) rfl rfl (by decide) (by decide) ?_
  show ro_w X _ 11 _ 28 [(0, .ref 158)] [.ref 161, .ref 158] ro_k160 (3, 24576)
  refine rs_pf (M2 := ro_k161) ri_11_28 rfl (by decide) (by decide +kernel) (fun _ => by decide +kernel) (fun f h => h) ?_
  refine rs_aload_n ri_11_31 rfl rfl ?_
  refine rs_sipush (v := (8192 : Int32)) ri_11_32 rfl (by decide) ?_
  refine rs_newa (c := 162) (k := 16) (n := 8192) (c1 := 4) (c2 := 32768) ri_11_35 rfl rfl (by decide) (by decide) (by decide) rfl (by decide) (by decide +kernel) rfl rfl (by decide) (by decide) ?_
  show ro_w X _ 11 _ 37 [(0, .ref 158)] [.ref 162, .ref 158] ro_k162 (4, 32768)
  refine rs_pf (M2 := ro_k163) ri_11_37 rfl (by decide) (by decide +kernel) (fun _ => by decide +kernel) (fun f h => h) ?_
  refine rs_ret ri_11_40 rm_11.2.1 (by decide) ?_
  exact ⟨rfl, rfl⟩
def ro_k164 : ro_Mm := ro_sR ro_k163 62 9 (.ref 158)
def ro_k165 : ro_Mm := ro_sR ro_k164 62 0 (.ref 5)
def ro_k166 : ro_Mm := ro_sR ro_k165 62 1 (.ref 35)
set_option maxRecDepth 20000 in
/-- RefusedOnce$Ways.<init> -/
theorem ci_21 {X : ro_Sx} : ro_cwp X 2 10 [.ref 62, .ref 5, .ref 35] ro_k132 (fun v M2 => v = none ∧ M2 = ro_k166) := by
  refine rs_begin (lv0 := [(0, .ref 62), (1, .ref 5), (2, .ref 35)]) (by decide) rfl (by rw [rm_10.1]; exact Nat.le_of_ble_eq_true rfl) rfl ?_
  refine rs_aload_n ri_10_0 rfl rfl ?_
  refine rs_obj ri_10_1 rfl (Nat.le_of_ble_eq_true rfl) ?_
  refine rs_aload_n ri_10_4 rfl rfl ?_
  refine rs_bipush (v := (21 : Int32)) ri_10_5 rfl (by decide) ?_
  refine rs_bipush (v := (12 : Int32)) ri_10_7 rfl (by decide) ?_
  refine rs_grid (c := 63) (n := 21) (k := 12) (c1 := 22) (c2 := 273) ri_10_9 rfl rfl (by decide +kernel) (by decide) (by decide) (by decide) (by decide) (by decide) (by decide) (by decide +kernel) rfl rfl (by decide) (by decide) ?_
  show ro_w X _ 10 _ 13 [(0, .ref 62), (1, .ref 5), (2, .ref 35)] [.ref 63, .ref 62] ro_k133 (22, 273)
  refine rs_pf (M2 := ro_k134) ri_10_13 rfl (by decide) (by decide +kernel) (fun _ => by decide +kernel) (fun f h => h) ?_
  refine rs_aload_n ri_10_16 rfl rfl ?_
  refine rs_bipush (v := (21 : Int32)) ri_10_17 rfl (by decide) ?_
  refine rs_bipush (v := (12 : Int32)) ri_10_19 rfl (by decide) ?_
  refine rs_grid (c := 85) (n := 21) (k := 12) (c1 := 44) (c2 := 546) ri_10_21 rfl rfl (by decide +kernel) (by decide) (by decide) (by decide) (by decide) (by decide) (by decide) (by decide +kernel) rfl rfl (by decide) (by decide) ?_
  show ro_w X _ 10 _ 25 [(0, .ref 62), (1, .ref 5), (2, .ref 35)] [.ref 85, .ref 62] ro_k135 (44, 546)
  refine rs_pf (M2 := ro_k136) ri_10_25 rfl (by decide) (by decide +kernel) (fun _ => by decide +kernel) (fun f h => h) ?_
  refine rs_aload_n ri_10_28 rfl rfl ?_
  refine rs_bipush (v := (21 : Int32)) ri_10_29 rfl (by decide) ?_
  refine rs_bipush (v := (12 : Int32)) ri_10_31 rfl (by decide) ?_
  refine rs_grid (c := 107) (n := 21) (k := 12) (c1 := 66) (c2 := 819) ri_10_33 rfl rfl (by decide +kernel) (by decide) (by decide) (by decide) (by decide) (by decide) (by decide) (by decide +kernel) rfl rfl (by decide) (by decide) ?_
  show ro_w X _ 10 _ 37 [(0, .ref 62), (1, .ref 5), (2, .ref 35)] [.ref 107, .ref 62] ro_k137 (66, 819)
  refine rs_pf (M2 := ro_k138) ri_10_37 rfl (by decide) (by decide +kernel) (fun _ => by decide +kernel) (fun f h => h) ?_
  refine rs_aload_n ri_10_40 rfl rfl ?_
  refine rs_bipush (v := (21 : Int32)) ri_10_41 rfl (by decide) ?_
  refine rs_bipush (v := (12 : Int32)) ri_10_43 rfl (by decide) ?_
  refine rs_grid (c := 129) (n := 21) (k := 12) (c1 := 88) (c2 := 1092) ri_10_45 rfl rfl (by decide +kernel) (by decide) (by decide) (by decide) (by decide) (by decide) (by decide) (by decide +kernel) rfl rfl (by decide) (by decide) ?_
  show ro_w X _ 10 _ 49 [(0, .ref 62), (1, .ref 5), (2, .ref 35)] [.ref 129, .ref 62] ro_k139 (88, 1092)
  refine rs_pf (M2 := ro_k140) ri_10_49 rfl (by decide) (by decide +kernel) (fun _ => by decide +kernel) (fun f h => h) ?_
  refine rs_aload_n ri_10_52 rfl rfl ?_
  refine rs_sipush (v := (1024 : Int32)) ri_10_53 rfl (by decide) ?_
  refine rs_newa (c := 151) (k := 16) (n := 1024) (c1 := 89) (c2 := 2116) ri_10_56 rfl rfl (by decide) (by decide) (by decide) rfl (by decide) (by decide +kernel) rfl rfl (by decide) (by decide) ?_
  show ro_w X _ 10 _ 58 [(0, .ref 62), (1, .ref 5), (2, .ref 35)] [.ref 151, .ref 62] ro_k141 (89, 2116)
  refine rs_pf (M2 := ro_k142) ri_10_58 rfl (by decide) (by decide +kernel) (fun _ => by decide +kernel) (fun f h => h) ?_
  refine rs_aload_n ri_10_61 rfl rfl ?_
  refine rs_sipush (v := (8192 : Int32)) ri_10_62 rfl (by decide) ?_
  refine rs_newa (c := 152) (k := 16) (n := 8192) (c1 := 90) (c2 := 10308) ri_10_65 rfl rfl (by decide) (by decide) (by decide) rfl (by decide) (by decide +kernel) rfl rfl (by decide) (by decide) ?_
  show ro_w X _ 10 _ 67 [(0, .ref 62), (1, .ref 5), (2, .ref 35)] [.ref 152, .ref 62] ro_k143 (90, 10308)
  refine rs_pf (M2 := ro_k144) ri_10_67 rfl (by decide) (by decide +kernel) (fun _ => by decide +kernel) (fun f h => h) ?_
  refine rs_aload_n ri_10_70 rfl rfl ?_
  refine rs_new (c := 153) (c1 := 91) (c2 := 10313) ri_10_71 rfl rfl rfl (by decide +kernel) rfl rfl (by decide) (by decide) ?_
  show ro_w X _ 10 _ 74 [(0, .ref 62), (1, .ref 5), (2, .ref 35)] [.ref 153, .ref 62] ro_k145 (91, 10313)
  refine rs_dup ri_10_74 rfl rfl ?_
  refine rs_spec (As := []) (r := [.ref 153, .ref 62]) (c1 := 95) (c2 := 43081) ri_10_75 (by decide) rfl rm_11.2.2.2 rfl rfl (Nat.le_of_ble_eq_true rfl) rfl rfl rfl rfl (by decide) (by decide) (by decide) ci_19 ?_
  rintro _ _ ⟨e1, e2⟩
  rw [e1, e2]
  show ro_w X _ 10 _ 78 [(0, .ref 62), (1, .ref 5), (2, .ref 35)] [.ref 153, .ref 62] ro_k153 (95, 43081)
  refine rs_pf (M2 := ro_k154) ri_10_78 rfl (by decide) (by decide +kernel) (fun _ => by decide +kernel) (fun f h => h) ?_
  refine rs_aload_n ri_10_81 rfl rfl ?_
  refine rs_new (c := 158) (c1 := 96) (c2 := 43086) ri_10_82 rfl rfl rfl (by decide +kernel) rfl rfl (by decide) (by decide) ?_
  show ro_w X _ 10 _ 85 [(0, .ref 62), (1, .ref 5), (2, .ref 35)] [.ref 158, .ref 62] ro_k155 (96, 43086)
  refine rs_dup ri_10_85 rfl rfl ?_
  refine rs_spec (As := []) (r := [.ref 158, .ref 62]) (c1 := 100) (c2 := 75854) ri_10_86 (by decide) rfl rm_11.2.2.2 rfl rfl (Nat.le_of_ble_eq_true rfl) rfl rfl rfl rfl (by decide) (by decide) (by decide) ci_20 ?_
  rintro _ _ ⟨e1, e2⟩
  rw [e1, e2]
  show ro_w X _ 10 _ 89 [(0, .ref 62), (1, .ref 5), (2, .ref 35)] [.ref 158, .ref 62] ro_k163 (100, 75854)
  refine rs_pf (M2 := ro_k164) ri_10_89 rfl (by decide) (by decide +kernel) (fun _ => by decide +kernel) (fun f h => h) ?_
  refine rs_aload_n ri_10_92 rfl rfl ?_
  refine rs_aload_n ri_10_93 rfl rfl ?_
  refine rs_pf (M2 := ro_k165) ri_10_94 rfl (by decide) (by decide +kernel) (fun _ => by decide +kernel) (fun f h => h) ?_
  refine rs_aload_n ri_10_97 rfl rfl ?_
  refine rs_aload_n ri_10_98 rfl rfl ?_
  refine rs_pf (M2 := ro_k166) ri_10_99 rfl (by decide) (by decide +kernel) (fun _ => by decide +kernel) (fun f h => h) ?_
  refine rs_ret ri_10_102 rm_10.2.1 (by decide) ?_
  exact ⟨rfl, rfl⟩
def ro_k167 : ro_Mm := ro_sR ro_k166 4 8 (.ref 62)
set_option maxRecDepth 20000 in
/-- RefusedOnce.<init> -/
theorem ci_22 {X : ro_Sx} : ro_cwp X 3 0 [.ref 4] ro_k1 (fun v M2 => v = none ∧ M2 = ro_k167) := by
  refine rs_begin (lv0 := [(0, .ref 4)]) (by decide) rfl (by rw [rm_0.1]; exact Nat.le_of_ble_eq_true rfl) rfl ?_
  refine rs_aload_n ri_0_0 rfl rfl ?_
  refine rs_obj ri_0_1 rfl (Nat.le_of_ble_eq_true rfl) ?_
  refine rs_aload_n ri_0_4 rfl rfl ?_
  refine rs_new (c := 5) (c1 := 1) (c2 := 13) ri_0_5 rfl rfl rfl (by decide +kernel) rfl rfl (by decide) (by decide) ?_
  show ro_w X _ 0 _ 8 [(0, .ref 4)] [.ref 5, .ref 4] ro_k2 (1, 13)
  refine rs_dup ri_0_8 rfl rfl ?_
  refine rs_spec (As := []) (r := [.ref 5, .ref 4]) (c1 := 11) (c2 := 61) ri_0_9 (by decide) rfl rm_1.2.2.2 rfl rfl (Nat.le_of_ble_eq_true rfl) rfl rfl rfl rfl (by decide) (by decide) (by decide) ci_3 ?_
  rintro _ _ ⟨e1, e2⟩
  rw [e1, e2]
  show ro_w X _ 0 _ 12 [(0, .ref 4)] [.ref 5, .ref 4] ro_k25 (11, 61)
  refine rs_pf (M2 := ro_k26) ri_0_12 rfl (by decide) (by decide +kernel) (fun _ => by decide +kernel) (fun f h => h) ?_
  refine rs_aload_n ri_0_15 rfl rfl ?_
  refine rs_new (c := 16) (c1 := 12) (c2 := 71) ri_0_16 rfl rfl rfl (by decide +kernel) rfl rfl (by decide) (by decide) ?_
  show ro_w X _ 0 _ 19 [(0, .ref 4)] [.ref 16, .ref 4] ro_k27 (12, 71)
  refine rs_dup ri_0_19 rfl rfl ?_
  refine rs_spec (As := []) (r := [.ref 16, .ref 4]) (c1 := 17) (c2 := 560) ri_0_20 (by decide) rfl rm_3.2.2.2 rfl rfl (Nat.le_of_ble_eq_true rfl) rfl rfl rfl rfl (by decide) (by decide) (by decide) ci_4 ?_
  rintro _ _ ⟨e1, e2⟩
  rw [e1, e2]
  show ro_w X _ 0 _ 23 [(0, .ref 4)] [.ref 16, .ref 4] ro_k37 (17, 560)
  refine rs_pf (M2 := ro_k38) ri_0_23 rfl (by decide) (by decide +kernel) (fun _ => by decide +kernel) (fun f h => h) ?_
  refine rs_aload_n ri_0_26 rfl rfl ?_
  refine rs_bipush (v := (6 : Int32)) ri_0_27 rfl (by decide) ?_
  refine rs_newq (c := 22) (n := 6) (c1 := 18) (c2 := 566) ri_0_29 rfl rfl (by decide +kernel) (by decide) (by decide) (by decide) (by decide +kernel) rfl rfl (by decide) (by decide) ?_
  show ro_w X _ 0 _ 32 [(0, .ref 4)] [.ref 22, .ref 4] ro_k39 (18, 566)
  refine rs_pf (M2 := ro_k40) ri_0_32 rfl (by decide) (by decide +kernel) (fun _ => by decide +kernel) (fun f h => h) ?_
  refine rs_iconst (v := (0 : Int32)) ri_0_35 rfl (by decide) ?_
  refine rs_istore_n (lv2 := [(1, .int (0 : Int32)), (0, .ref 4)]) ri_0_36 rfl rm_0.1 (by decide) rfl ?_
  refine rs_iload_n ri_0_37 rfl rfl ?_
  refine rs_bipush (v := (6 : Int32)) ri_0_38 rfl (by decide) ?_
  refine rs_icmp_ge (t := 62) ri_0_40 rfl rfl (fun h => absurd h (by decide)) (fun h => ?_)
  refine rs_aload_n ri_0_43 rfl rfl ?_
  refine rs_gf (v := .ref 22) ri_0_44 rfl (by decide) (by decide +kernel) rfl (by rfl) ?_
  refine rs_iload_n ri_0_47 rfl rfl ?_
  refine rs_new (c := 23) (c1 := 19) (c2 := 570) ri_0_48 rfl rfl rfl (by decide +kernel) rfl rfl (by decide) (by decide) ?_
  show ro_w X _ 0 _ 51 [(1, .int (0 : Int32)), (0, .ref 4)] [.ref 23, .int (0 : Int32), .ref 22] ro_k41 (19, 570)
  refine rs_dup ri_0_51 rfl rfl ?_
  refine rs_spec (As := []) (r := [.ref 23, .int (0 : Int32), .ref 22]) (c1 := 20) (c2 := 630) ri_0_52 (by decide) rfl rm_4.2.2.2 rfl rfl (Nat.le_of_ble_eq_true rfl) rfl rfl rfl rfl (by decide) (by decide) (by decide) ci_5 ?_
  rintro _ _ ⟨e1, e2⟩
  rw [e1, e2]
  show ro_w X _ 0 _ 55 [(1, .int (0 : Int32)), (0, .ref 4)] [.ref 23, .int (0 : Int32), .ref 22] ro_k44 (20, 630)
  refine rs_aast (n := 6) (j := 0) ri_0_55 rfl (by decide) (by decide +kernel) (by decide) (by decide +kernel) (vp_in_iff.mpr ⟨by decide, by decide⟩) (by decide) ?_
  show ro_w X _ 0 _ 56 [(1, .int (0 : Int32)), (0, .ref 4)] [] ro_k45 (20, 630)
  refine rs_iinc (v := (1 : Int32)) (lv2 := [(1, .int (1 : Int32)), (0, .ref 4)]) ri_0_56 rfl rfl (by decide) rm_0.1 (by decide) rfl ?_
  refine rs_goto (t := 37) ri_0_59 rfl ?_
  refine rs_iload_n ri_0_37 rfl rfl ?_
  refine rs_bipush (v := (6 : Int32)) ri_0_38 rfl (by decide) ?_
  refine rs_icmp_ge (t := 62) ri_0_40 rfl rfl (fun h => absurd h (by decide)) (fun h => ?_)
  refine rs_aload_n ri_0_43 rfl rfl ?_
  refine rs_gf (v := .ref 22) ri_0_44 rfl (by decide) (by decide +kernel) rfl (by rfl) ?_
  refine rs_iload_n ri_0_47 rfl rfl ?_
  refine rs_new (c := 25) (c1 := 21) (c2 := 634) ri_0_48 rfl rfl rfl (by decide +kernel) rfl rfl (by decide) (by decide) ?_
  show ro_w X _ 0 _ 51 [(1, .int (1 : Int32)), (0, .ref 4)] [.ref 25, .int (1 : Int32), .ref 22] ro_k46 (21, 634)
  refine rs_dup ri_0_51 rfl rfl ?_
  refine rs_spec (As := []) (r := [.ref 25, .int (1 : Int32), .ref 22]) (c1 := 22) (c2 := 694) ri_0_52 (by decide) rfl rm_4.2.2.2 rfl rfl (Nat.le_of_ble_eq_true rfl) rfl rfl rfl rfl (by decide) (by decide) (by decide) ci_6 ?_
  rintro _ _ ⟨e1, e2⟩
  rw [e1, e2]
  show ro_w X _ 0 _ 55 [(1, .int (1 : Int32)), (0, .ref 4)] [.ref 25, .int (1 : Int32), .ref 22] ro_k49 (22, 694)
  refine rs_aast (n := 6) (j := 1) ri_0_55 rfl (by decide) (by decide +kernel) (by decide) (by decide +kernel) (vp_in_iff.mpr ⟨by decide, by decide⟩) (by decide) ?_
  show ro_w X _ 0 _ 56 [(1, .int (1 : Int32)), (0, .ref 4)] [] ro_k50 (22, 694)
  refine rs_iinc (v := (2 : Int32)) (lv2 := [(1, .int (2 : Int32)), (0, .ref 4)]) ri_0_56 rfl rfl (by decide) rm_0.1 (by decide) rfl ?_
  refine rs_goto (t := 37) ri_0_59 rfl ?_
  refine rs_iload_n ri_0_37 rfl rfl ?_
  refine rs_bipush (v := (6 : Int32)) ri_0_38 rfl (by decide) ?_
  refine rs_icmp_ge (t := 62) ri_0_40 rfl rfl (fun h => absurd h (by decide)) (fun h => ?_)
  refine rs_aload_n ri_0_43 rfl rfl ?_
  refine rs_gf (v := .ref 22) ri_0_44 rfl (by decide) (by decide +kernel) rfl (by rfl) ?_
  refine rs_iload_n ri_0_47 rfl rfl ?_
  refine rs_new (c := 27) (c1 := 23) (c2 := 698) ri_0_48 rfl rfl rfl (by decide +kernel) rfl rfl (by decide) (by decide) ?_
  show ro_w X _ 0 _ 51 [(1, .int (2 : Int32)), (0, .ref 4)] [.ref 27, .int (2 : Int32), .ref 22] ro_k51 (23, 698)
  refine rs_dup ri_0_51 rfl rfl ?_
  refine rs_spec (As := []) (r := [.ref 27, .int (2 : Int32), .ref 22]) (c1 := 24) (c2 := 758) ri_0_52 (by decide) rfl rm_4.2.2.2 rfl rfl (Nat.le_of_ble_eq_true rfl) rfl rfl rfl rfl (by decide) (by decide) (by decide) ci_7 ?_
  rintro _ _ ⟨e1, e2⟩
  rw [e1, e2]
  show ro_w X _ 0 _ 55 [(1, .int (2 : Int32)), (0, .ref 4)] [.ref 27, .int (2 : Int32), .ref 22] ro_k54 (24, 758)
  refine rs_aast (n := 6) (j := 2) ri_0_55 rfl (by decide) (by decide +kernel) (by decide) (by decide +kernel) (vp_in_iff.mpr ⟨by decide, by decide⟩) (by decide) ?_
  show ro_w X _ 0 _ 56 [(1, .int (2 : Int32)), (0, .ref 4)] [] ro_k55 (24, 758)
  refine rs_iinc (v := (3 : Int32)) (lv2 := [(1, .int (3 : Int32)), (0, .ref 4)]) ri_0_56 rfl rfl (by decide) rm_0.1 (by decide) rfl ?_
  refine rs_goto (t := 37) ri_0_59 rfl ?_
  refine rs_iload_n ri_0_37 rfl rfl ?_
  refine rs_bipush (v := (6 : Int32)) ri_0_38 rfl (by decide) ?_
  refine rs_icmp_ge (t := 62) ri_0_40 rfl rfl (fun h => absurd h (by decide)) (fun h => ?_)
  refine rs_aload_n ri_0_43 rfl rfl ?_
  refine rs_gf (v := .ref 22) ri_0_44 rfl (by decide) (by decide +kernel) rfl (by rfl) ?_
  refine rs_iload_n ri_0_47 rfl rfl ?_
  refine rs_new (c := 29) (c1 := 25) (c2 := 762) ri_0_48 rfl rfl rfl (by decide +kernel) rfl rfl (by decide) (by decide) ?_
  show ro_w X _ 0 _ 51 [(1, .int (3 : Int32)), (0, .ref 4)] [.ref 29, .int (3 : Int32), .ref 22] ro_k56 (25, 762)
  refine rs_dup ri_0_51 rfl rfl ?_
  refine rs_spec (As := []) (r := [.ref 29, .int (3 : Int32), .ref 22]) (c1 := 26) (c2 := 822) ri_0_52 (by decide) rfl rm_4.2.2.2 rfl rfl (Nat.le_of_ble_eq_true rfl) rfl rfl rfl rfl (by decide) (by decide) (by decide) ci_8 ?_
  rintro _ _ ⟨e1, e2⟩
  rw [e1, e2]
  show ro_w X _ 0 _ 55 [(1, .int (3 : Int32)), (0, .ref 4)] [.ref 29, .int (3 : Int32), .ref 22] ro_k59 (26, 822)
  refine rs_aast (n := 6) (j := 3) ri_0_55 rfl (by decide) (by decide +kernel) (by decide) (by decide +kernel) (vp_in_iff.mpr ⟨by decide, by decide⟩) (by decide) ?_
  show ro_w X _ 0 _ 56 [(1, .int (3 : Int32)), (0, .ref 4)] [] ro_k60 (26, 822)
  refine rs_iinc (v := (4 : Int32)) (lv2 := [(1, .int (4 : Int32)), (0, .ref 4)]) ri_0_56 rfl rfl (by decide) rm_0.1 (by decide) rfl ?_
  refine rs_goto (t := 37) ri_0_59 rfl ?_
  refine rs_iload_n ri_0_37 rfl rfl ?_
  refine rs_bipush (v := (6 : Int32)) ri_0_38 rfl (by decide) ?_
  refine rs_icmp_ge (t := 62) ri_0_40 rfl rfl (fun h => absurd h (by decide)) (fun h => ?_)
  refine rs_aload_n ri_0_43 rfl rfl ?_
  refine rs_gf (v := .ref 22) ri_0_44 rfl (by decide) (by decide +kernel) rfl (by rfl) ?_
  refine rs_iload_n ri_0_47 rfl rfl ?_
  refine rs_new (c := 31) (c1 := 27) (c2 := 826) ri_0_48 rfl rfl rfl (by decide +kernel) rfl rfl (by decide) (by decide) ?_
  show ro_w X _ 0 _ 51 [(1, .int (4 : Int32)), (0, .ref 4)] [.ref 31, .int (4 : Int32), .ref 22] ro_k61 (27, 826)
  refine rs_dup ri_0_51 rfl rfl ?_
  refine rs_spec (As := []) (r := [.ref 31, .int (4 : Int32), .ref 22]) (c1 := 28) (c2 := 886) ri_0_52 (by decide) rfl rm_4.2.2.2 rfl rfl (Nat.le_of_ble_eq_true rfl) rfl rfl rfl rfl (by decide) (by decide) (by decide) ci_9 ?_
  rintro _ _ ⟨e1, e2⟩
  rw [e1, e2]
  show ro_w X _ 0 _ 55 [(1, .int (4 : Int32)), (0, .ref 4)] [.ref 31, .int (4 : Int32), .ref 22] ro_k64 (28, 886)
  refine rs_aast (n := 6) (j := 4) ri_0_55 rfl (by decide) (by decide +kernel) (by decide) (by decide +kernel) (vp_in_iff.mpr ⟨by decide, by decide⟩) (by decide) ?_
  show ro_w X _ 0 _ 56 [(1, .int (4 : Int32)), (0, .ref 4)] [] ro_k65 (28, 886)
  refine rs_iinc (v := (5 : Int32)) (lv2 := [(1, .int (5 : Int32)), (0, .ref 4)]) ri_0_56 rfl rfl (by decide) rm_0.1 (by decide) rfl ?_
  refine rs_goto (t := 37) ri_0_59 rfl ?_
  refine rs_iload_n ri_0_37 rfl rfl ?_
  refine rs_bipush (v := (6 : Int32)) ri_0_38 rfl (by decide) ?_
  refine rs_icmp_ge (t := 62) ri_0_40 rfl rfl (fun h => absurd h (by decide)) (fun h => ?_)
  refine rs_aload_n ri_0_43 rfl rfl ?_
  refine rs_gf (v := .ref 22) ri_0_44 rfl (by decide) (by decide +kernel) rfl (by rfl) ?_
  refine rs_iload_n ri_0_47 rfl rfl ?_
  refine rs_new (c := 33) (c1 := 29) (c2 := 890) ri_0_48 rfl rfl rfl (by decide +kernel) rfl rfl (by decide) (by decide) ?_
  show ro_w X _ 0 _ 51 [(1, .int (5 : Int32)), (0, .ref 4)] [.ref 33, .int (5 : Int32), .ref 22] ro_k66 (29, 890)
  refine rs_dup ri_0_51 rfl rfl ?_
  refine rs_spec (As := []) (r := [.ref 33, .int (5 : Int32), .ref 22]) (c1 := 30) (c2 := 950) ri_0_52 (by decide) rfl rm_4.2.2.2 rfl rfl (Nat.le_of_ble_eq_true rfl) rfl rfl rfl rfl (by decide) (by decide) (by decide) ci_10 ?_
  rintro _ _ ⟨e1, e2⟩
  rw [e1, e2]
  show ro_w X _ 0 _ 55 [(1, .int (5 : Int32)), (0, .ref 4)] [.ref 33, .int (5 : Int32), .ref 22] ro_k69 (30, 950)
  refine rs_aast (n := 6) (j := 5) ri_0_55 rfl (by decide) (by decide +kernel) (by decide) (by decide +kernel) (vp_in_iff.mpr ⟨by decide, by decide⟩) (by decide) ?_
  show ro_w X _ 0 _ 56 [(1, .int (5 : Int32)), (0, .ref 4)] [] ro_k70 (30, 950)
  refine rs_iinc (v := (6 : Int32)) (lv2 := [(1, .int (6 : Int32)), (0, .ref 4)]) ri_0_56 rfl rfl (by decide) rm_0.1 (by decide) rfl ?_
  refine rs_goto (t := 37) ri_0_59 rfl ?_
  refine rs_iload_n ri_0_37 rfl rfl ?_
  refine rs_bipush (v := (6 : Int32)) ri_0_38 rfl (by decide) ?_
  refine rs_icmp_ge (t := 62) ri_0_40 rfl rfl (fun h => ?_) (fun h => absurd (by decide) h)
  refine rs_aload_n ri_0_62 rfl rfl ?_
  refine rs_new (c := 35) (c1 := 31) (c2 := 961) ri_0_63 rfl rfl rfl (by decide +kernel) rfl rfl (by decide) (by decide) ?_
  show ro_w X _ 0 _ 66 [(1, .int (6 : Int32)), (0, .ref 4)] [.ref 35, .ref 4] ro_k71 (31, 961)
  refine rs_dup ri_0_66 rfl rfl ?_
  refine rs_aload_n ri_0_67 rfl rfl ?_
  refine rs_gf (v := .ref 5) ri_0_68 rfl (by decide) (by decide +kernel) rfl (by rfl) ?_
  refine rs_aload_n ri_0_71 rfl rfl ?_
  refine rs_gf (v := .ref 16) ri_0_72 rfl (by decide) (by decide +kernel) rfl (by rfl) ?_
  refine rs_spec (As := [.ref 5, .ref 16]) (r := [.ref 35, .ref 4]) (c1 := 37) (c2 := 1035) ri_0_75 (by decide) rfl rm_5.2.2.2 rfl rfl (Nat.le_of_ble_eq_true rfl) rfl rfl rfl rfl (by decide) (by decide) (by decide) ci_12 ?_
  rintro _ _ ⟨e1, e2⟩
  rw [e1, e2]
  show ro_w X _ 0 _ 78 [(1, .int (6 : Int32)), (0, .ref 4)] [.ref 35, .ref 4] ro_k85 (37, 1035)
  refine rs_pf (M2 := ro_k86) ri_0_78 rfl (by decide) (by decide +kernel) (fun _ => by decide +kernel) (fun f h => h) ?_
  refine rs_aload_n ri_0_81 rfl rfl ?_
  refine rs_new (c := 42) (c1 := 38) (c2 := 1045) ri_0_82 rfl rfl rfl (by decide +kernel) rfl rfl (by decide) (by decide) ?_
  show ro_w X _ 0 _ 85 [(1, .int (6 : Int32)), (0, .ref 4)] [.ref 42, .ref 4] ro_k87 (38, 1045)
  refine rs_dup ri_0_85 rfl rfl ?_
  refine rs_aload_n ri_0_86 rfl rfl ?_
  refine rs_gf (v := .ref 5) ri_0_87 rfl (by decide) (by decide +kernel) rfl (by rfl) ?_
  refine rs_aload_n ri_0_90 rfl rfl ?_
  refine rs_gf (v := .ref 16) ri_0_91 rfl (by decide) (by decide +kernel) rfl (by rfl) ?_
  refine rs_spec (As := [.ref 5, .ref 16]) (r := [.ref 42, .ref 4]) (c1 := 43) (c2 := 1079) ri_0_94 (by decide) rfl rm_6.2.2.2 rfl rfl (Nat.le_of_ble_eq_true rfl) rfl rfl rfl rfl (by decide) (by decide) (by decide) ci_14 ?_
  rintro _ _ ⟨e1, e2⟩
  rw [e1, e2]
  show ro_w X _ 0 _ 97 [(1, .int (6 : Int32)), (0, .ref 4)] [.ref 42, .ref 4] ro_k99 (43, 1079)
  refine rs_pf (M2 := ro_k100) ri_0_97 rfl (by decide) (by decide +kernel) (fun _ => by decide +kernel) (fun f h => h) ?_
  refine rs_aload_n ri_0_100 rfl rfl ?_
  refine rs_new (c := 48) (c1 := 44) (c2 := 1088) ri_0_101 rfl rfl rfl (by decide +kernel) rfl rfl (by decide) (by decide) ?_
  show ro_w X _ 0 _ 104 [(1, .int (6 : Int32)), (0, .ref 4)] [.ref 48, .ref 4] ro_k101 (44, 1088)
  refine rs_dup ri_0_104 rfl rfl ?_
  refine rs_aload_n ri_0_105 rfl rfl ?_
  refine rs_gf (v := .ref 5) ri_0_106 rfl (by decide) (by decide +kernel) rfl (by rfl) ?_
  refine rs_aload_n ri_0_109 rfl rfl ?_
  refine rs_gf (v := .ref 16) ri_0_110 rfl (by decide) (by decide +kernel) rfl (by rfl) ?_
  refine rs_spec (As := [.ref 5, .ref 16]) (r := [.ref 48, .ref 4]) (c1 := 49) (c2 := 1120) ri_0_113 (by decide) rfl rm_7.2.2.2 rfl rfl (Nat.le_of_ble_eq_true rfl) rfl rfl rfl rfl (by decide) (by decide) (by decide) ci_16 ?_
  rintro _ _ ⟨e1, e2⟩
  rw [e1, e2]
  show ro_w X _ 0 _ 116 [(1, .int (6 : Int32)), (0, .ref 4)] [.ref 48, .ref 4] ro_k114 (49, 1120)
  refine rs_pf (M2 := ro_k115) ri_0_116 rfl (by decide) (by decide +kernel) (fun _ => by decide +kernel) (fun f h => h) ?_
  refine rs_aload_n ri_0_119 rfl rfl ?_
  refine rs_new (c := 54) (c1 := 50) (c2 := 1126) ri_0_120 rfl rfl rfl (by decide +kernel) rfl rfl (by decide) (by decide) ?_
  show ro_w X _ 0 _ 123 [(1, .int (6 : Int32)), (0, .ref 4)] [.ref 54, .ref 4] ro_k116 (50, 1126)
  refine rs_dup ri_0_123 rfl rfl ?_
  refine rs_spec (As := []) (r := [.ref 54, .ref 4]) (c1 := 54) (c2 := 1286) ri_0_124 (by decide) rfl rm_8.2.2.2 rfl rfl (Nat.le_of_ble_eq_true rfl) rfl rfl rfl rfl (by decide) (by decide) (by decide) ci_17 ?_
  rintro _ _ ⟨e1, e2⟩
  rw [e1, e2]
  show ro_w X _ 0 _ 127 [(1, .int (6 : Int32)), (0, .ref 4)] [.ref 54, .ref 4] ro_k124 (54, 1286)
  refine rs_pf (M2 := ro_k125) ri_0_127 rfl (by decide) (by decide +kernel) (fun _ => by decide +kernel) (fun f h => h) ?_
  refine rs_aload_n ri_0_130 rfl rfl ?_
  refine rs_new (c := 59) (c1 := 55) (c2 := 1292) ri_0_131 rfl rfl rfl (by decide +kernel) rfl rfl (by decide) (by decide) ?_
  show ro_w X _ 0 _ 134 [(1, .int (6 : Int32)), (0, .ref 4)] [.ref 59, .ref 4] ro_k126 (55, 1292)
  refine rs_dup ri_0_134 rfl rfl ?_
  refine rs_spec (As := []) (r := [.ref 59, .ref 4]) (c1 := 57) (c2 := 1366) ri_0_135 (by decide) rfl rm_9.2.2.2 rfl rfl (Nat.le_of_ble_eq_true rfl) rfl rfl rfl rfl (by decide) (by decide) (by decide) ci_18 ?_
  rintro _ _ ⟨e1, e2⟩
  rw [e1, e2]
  show ro_w X _ 0 _ 138 [(1, .int (6 : Int32)), (0, .ref 4)] [.ref 59, .ref 4] ro_k130 (57, 1366)
  refine rs_pf (M2 := ro_k131) ri_0_138 rfl (by decide) (by decide +kernel) (fun _ => by decide +kernel) (fun f h => h) ?_
  refine rs_aload_n ri_0_141 rfl rfl ?_
  refine rs_new (c := 62) (c1 := 58) (c2 := 1376) ri_0_142 rfl rfl rfl (by decide +kernel) rfl rfl (by decide) (by decide) ?_
  show ro_w X _ 0 _ 145 [(1, .int (6 : Int32)), (0, .ref 4)] [.ref 62, .ref 4] ro_k132 (58, 1376)
  refine rs_dup ri_0_145 rfl rfl ?_
  refine rs_aload_n ri_0_146 rfl rfl ?_
  refine rs_gf (v := .ref 5) ri_0_147 rfl (by decide) (by decide +kernel) rfl (by rfl) ?_
  refine rs_aload_n ri_0_150 rfl rfl ?_
  refine rs_gf (v := .ref 35) ri_0_151 rfl (by decide) (by decide +kernel) rfl (by rfl) ?_
  refine rs_spec (As := [.ref 5, .ref 35]) (r := [.ref 62, .ref 4]) (c1 := 158) (c2 := 77230) ri_0_154 (by decide) rfl rm_10.2.2.2 rfl rfl (Nat.le_of_ble_eq_true rfl) rfl rfl rfl rfl (by decide) (by decide) (by decide) ci_21 ?_
  rintro _ _ ⟨e1, e2⟩
  rw [e1, e2]
  show ro_w X _ 0 _ 157 [(1, .int (6 : Int32)), (0, .ref 4)] [.ref 62, .ref 4] ro_k166 (158, 77230)
  refine rs_pf (M2 := ro_k167) ri_0_157 rfl (by decide) (by decide +kernel) (fun _ => by decide +kernel) (fun f h => h) ?_
  refine rs_ret ri_0_160 rm_0.2.1 (by decide) ?_
  exact ⟨rfl, rfl⟩
/-- the memory behind the constructor -/
abbrev ro_M1 : ro_Mm := ro_k167
theorem ro_made1 {X : ro_Sx} : ro_cwp X 3 0 [.ref 4] ro_k1 (fun v M2 => v = none ∧ M2 = ro_M1) := ci_22
theorem ro_lay1 : ro_lay ro_M1 := by
  refine ⟨by decide +kernel, fun e he => ?_⟩
  have h : ro_rt.all (fun e => match ro_M1.2.2.2 e.1 e.2.1 with | .ref k => k == e.2.2 | _ => false) = true := by decide +kernel
  have h2 := List.all_eq_true.mp h e he
  split at h2
  · rename_i k hk
    rw [hk]
    rw [beq_iff_eq.mp h2]
  · cases h2
