theorem hy_X2_draw : yX2_draw.cls = RX2 ∧ yX2_draw.cls ≠ "java/lang/invoke/MethodHandle" ∧ yX2_draw.cls ≠ "java/lang/invoke/VarHandle" ∧ (parseMethodDescriptor yX2_draw.desc).map (fun d => d.parameters.length) = some 1 := by decide +kernel
def wX2_draw : List Cond := Cond.code yX2_draw cX2_draw 2 (some .int) :: TB
def f_X2_draw (M : MM) (x1 : Int32) : Option (Int32 × MM) :=
  (z_stf M 9 0 ((((M 9 0) * (1103515245 : Int32)) + (12345 : Int32)) &&& (2147483647 : Int32))).bind fun (M15 : MM) =>
  (if x1 ≤ 0 then
    some (0 : Int32)
  else
    (z_div (M15 9 0) (65536 : Int32)).bind fun (v28 : Int32) =>
    (z_rem v28 x1).bind fun (v30 : Int32) =>
    some v30
  ).bind fun (j19 : Int32) =>
    some (j19, M15)
set_option maxRecDepth 100000 in
set_option maxHeartbeats 4000000 in
theorem c_X2_draw (l : Launch) (g : Gx) {M : MM} {x1 : Int32} {r : Int32 × MM} (h : f_X2_draw M x1 = some r) : zMi l yX2_draw wX2_draw (rmm 0 0) [.ref (ga g 9), .int x1] g M r.1 r.2 := by
  refine zMi_of .int (by decide) rfl (Nat.le_of_ble_eq_true rfl) rfl rfl ?_
  intro x C E
  show zJ g x M 0 [(0, .ref (ga g 9)), (1, .int x1)] []
  unfold f_X2_draw at h
  refine z_aload_n C dX2_draw_0 rfl ?_
  refine z_aload_n C dX2_draw_1 rfl ?_
  refine z_get C O_9 0 rfl (fun _ h9 => hsT _ (inX2 _ h9)) (by decide) (hsT _ tw_1_199) dX2_draw_2 rfl ?_
  refine z_ldc (v := (1103515245 : Int32)) C (hsT _ tw_3_111) dX2_draw_5 ?_
  refine z_imul C dX2_draw_7 ?_
  refine z_sipush (12345 : Int32) C dX2_draw_8 (by decide) ?_
  refine z_iadd C dX2_draw_11 ?_
  refine z_ldc (v := (2147483647 : Int32)) C (hsT _ tw_3_112) dX2_draw_12 ?_
  refine z_iand C dX2_draw_14 ?_
  obtain ⟨M15, h15, h⟩ := e_bd h
  refine z_puti tyX2 C O_9 0 O_9_0 rfl (fun _ h9 => hsT _ (inX2 _ h9)) tyX2_ok nmX2 (by decide) rfl (Nat.le_of_ble_eq_true rfl) (hsT _ tw_1_199) dX2_draw_15 rfl h15 ?_
  refine z_iload_n C dX2_draw_18 rfl ?_
  obtain ⟨j19, h19, h⟩ := e_bd h
  have hj19 : zJ g x M15 35 [] [.int j19] := by
    obtain rfl := Option.some.inj h
    exact z_iret C E dX2_draw_35
  have h := h19
  refine z_if_le 34 C dX2_draw_19 (by decide) (fun hc => ?_) (fun hc => ?_)
  · have h := e_t hc h
    refine z_iconst (0 : Int32) C dX2_draw_34 (by decide) ?_
    obtain rfl := Option.some.inj h
    exact z_sub [] rfl hj19
  · have h := e_f hc h
    refine z_aload_n C dX2_draw_22 rfl ?_
    refine z_get C O_9 0 rfl (fun _ h9 => hsT _ (inX2 _ h9)) (by decide) (hsT _ tw_1_199) dX2_draw_23 rfl ?_
    refine z_ldc (v := (65536 : Int32)) C (hsT _ tw_3_113) dX2_draw_26 ?_
    obtain ⟨v28, h28, h⟩ := e_bd h
    refine z_idiv C h28 dX2_draw_28 ?_
    refine z_iload_n C dX2_draw_29 rfl ?_
    obtain ⟨v30, h30, h⟩ := e_bd h
    refine z_irem C h30 dX2_draw_30 ?_
    refine z_goto 35 C dX2_draw_31 (by decide) ?_
    obtain rfl := Option.some.inj h
    exact z_sub [] rfl hj19
theorem hy_X2_addOne : yX2_addOne.cls = RX2 ∧ yX2_addOne.cls ≠ "java/lang/invoke/MethodHandle" ∧ yX2_addOne.cls ≠ "java/lang/invoke/VarHandle" ∧ (parseMethodDescriptor yX2_addOne.desc).map (fun d => d.parameters.length) = some 1 := by decide +kernel
def wX2_addOne : List Cond := Cond.code yX2_addOne cX2_addOne 6 none :: TB
def f_X2_addOne (M : MM)  : Option MM :=
  (f_X2_draw M (2 : Int32)).bind fun (s2 : Int32 × MM) =>
  (f_X2_draw s2.2 (10 : Int32)).bind fun (s9 : Int32 × MM) =>
  (f_X7_people s9.2 ).bind fun (v15 : Int32) =>
  (f_X2_draw s9.2 (v15 + (1 : Int32))).bind fun (s20 : Int32 × MM) =>
  (f_X7_people s20.2 ).bind fun (v29 : Int32) =>
  (f_X2_draw s20.2 (v29 + (1 : Int32))).bind fun (s34 : Int32 × MM) =>
  (f_X7_isMan s34.2 (s20.1 - (1 : Int32))).bind fun (v47 : Int32) =>
  (if v47 = 0 then
    some (-1 : Int32)
  else
    some (s20.1 - (1 : Int32))
  ).bind fun (j50 : Int32) =>
    (f_X7_isWoman s34.2 (s34.1 - (1 : Int32))).bind fun (v62 : Int32) =>
    (if v62 = 0 then
      some (-1 : Int32)
    else
      some (s34.1 - (1 : Int32))
    ).bind fun (j65 : Int32) =>
      (f_X7_addPerson s34.2 s2.1 s9.1 j50 j65).bind fun (M74 : MM) =>
      some M74
set_option maxRecDepth 100000 in
set_option maxHeartbeats 4000000 in
theorem c_X2_addOne (l : Launch) (g : Gx) {M : MM}  {r : MM} (h : f_X2_addOne M  = some r) : zMv l yX2_addOne wX2_addOne (rmm 3 68) [.ref (ga g 9), .ref (ga g 1)] g M r := by
  refine zMv_of (by decide) rfl (Nat.le_of_ble_eq_true rfl) rfl rfl ?_
  intro x C E
  show zJ g x M 0 [(0, .ref (ga g 9)), (1, .ref (ga g 1))] []
  unfold f_X2_addOne at h
  refine z_aload_n C dX2_addOne_0 rfl ?_
  refine z_iconst (2 : Int32) C dX2_addOne_1 (by decide) ?_
  obtain ⟨s2, h2, h⟩ := e_bd h
  refine z_callVi (As := [.int (2 : Int32)]) C (c_X2_draw l g h2) rfl O_9 rfl (gcV hsT tw_3_107 cw_X2_draw) rfl rfl rfl hy_X2_draw rfl ⟨Nat.le_of_ble_eq_true rfl, Nat.le_of_ble_eq_true rfl⟩ (Nat.le_of_ble_eq_true rfl) dX2_addOne_2 ?_
  refine z_istore_n [(2, .int s2.1), (0, .ref (ga g 9)), (1, .ref (ga g 1))] C dX2_addOne_5 (by decide) rfl ?_
  refine z_aload_n C dX2_addOne_6 rfl ?_
  refine z_bipush (10 : Int32) C dX2_addOne_7 (by decide) ?_
  obtain ⟨s9, h9, h⟩ := e_bd h
  refine z_callVi (As := [.int (10 : Int32)]) C (c_X2_draw l g h9) rfl O_9 rfl (gcV hsT tw_3_107 cw_X2_draw) rfl rfl rfl hy_X2_draw rfl ⟨Nat.le_of_ble_eq_true rfl, Nat.le_of_ble_eq_true rfl⟩ (Nat.le_of_ble_eq_true rfl) dX2_addOne_9 ?_
  refine z_istore_n [(3, .int s9.1), (2, .int s2.1), (0, .ref (ga g 9)), (1, .ref (ga g 1))] C dX2_addOne_12 (by decide) rfl ?_
  refine z_aload_n C dX2_addOne_13 rfl ?_
  refine z_aload_n C dX2_addOne_14 rfl ?_
  obtain ⟨v15, h15, h⟩ := e_bd h
  refine z_callVi (As := []) C (c_X7_people l g h15) rfl O_1 rfl (gcV hsT tw_3_114 cw_X7_people) rfl rfl rfl hy_X7_people rfl ⟨Nat.le_of_ble_eq_true rfl, Nat.le_of_ble_eq_true rfl⟩ (Nat.le_of_ble_eq_true rfl) dX2_addOne_15 ?_
  refine z_iconst (1 : Int32) C dX2_addOne_18 (by decide) ?_
  refine z_iadd C dX2_addOne_19 ?_
  obtain ⟨s20, h20, h⟩ := e_bd h
  refine z_callVi (As := [.int (v15 + (1 : Int32))]) C (c_X2_draw l g h20) rfl O_9 rfl (gcV hsT tw_3_107 cw_X2_draw) rfl rfl rfl hy_X2_draw rfl ⟨Nat.le_of_ble_eq_true rfl, Nat.le_of_ble_eq_true rfl⟩ (Nat.le_of_ble_eq_true rfl) dX2_addOne_20 ?_
  refine z_iconst (1 : Int32) C dX2_addOne_23 (by decide) ?_
  refine z_isub C dX2_addOne_24 ?_
  refine z_istore [(4, .int (s20.1 - (1 : Int32))), (3, .int s9.1), (2, .int s2.1), (0, .ref (ga g 9)), (1, .ref (ga g 1))] C dX2_addOne_25 (by decide) rfl ?_
  refine z_aload_n C dX2_addOne_27 rfl ?_
  refine z_aload_n C dX2_addOne_28 rfl ?_
  obtain ⟨v29, h29, h⟩ := e_bd h
  refine z_callVi (As := []) C (c_X7_people l g h29) rfl O_1 rfl (gcV hsT tw_3_114 cw_X7_people) rfl rfl rfl hy_X7_people rfl ⟨Nat.le_of_ble_eq_true rfl, Nat.le_of_ble_eq_true rfl⟩ (Nat.le_of_ble_eq_true rfl) dX2_addOne_29 ?_
  refine z_iconst (1 : Int32) C dX2_addOne_32 (by decide) ?_
  refine z_iadd C dX2_addOne_33 ?_
  obtain ⟨s34, h34, h⟩ := e_bd h
  refine z_callVi (As := [.int (v29 + (1 : Int32))]) C (c_X2_draw l g h34) rfl O_9 rfl (gcV hsT tw_3_107 cw_X2_draw) rfl rfl rfl hy_X2_draw rfl ⟨Nat.le_of_ble_eq_true rfl, Nat.le_of_ble_eq_true rfl⟩ (Nat.le_of_ble_eq_true rfl) dX2_addOne_34 ?_
  refine z_iconst (1 : Int32) C dX2_addOne_37 (by decide) ?_
  refine z_isub C dX2_addOne_38 ?_
  refine z_istore [(5, .int (s34.1 - (1 : Int32))), (4, .int (s20.1 - (1 : Int32))), (3, .int s9.1), (2, .int s2.1), (0, .ref (ga g 9)), (1, .ref (ga g 1))] C dX2_addOne_39 (by decide) rfl ?_
  refine z_aload_n C dX2_addOne_41 rfl ?_
  refine z_iload_n C dX2_addOne_42 rfl ?_
  refine z_iload_n C dX2_addOne_43 rfl ?_
  refine z_aload_n C dX2_addOne_44 rfl ?_
  refine z_iload C dX2_addOne_45 rfl ?_
  obtain ⟨v47, h47, h⟩ := e_bd h
  refine z_callVi (As := [.int (s20.1 - (1 : Int32))]) C (c_X7_isMan l g h47) rfl O_1 rfl (gcV hsT tw_3_115 cw_X7_isMan) rfl rfl rfl hy_X7_isMan rfl ⟨Nat.le_of_ble_eq_true rfl, Nat.le_of_ble_eq_true rfl⟩ (Nat.le_of_ble_eq_true rfl) dX2_addOne_47 ?_
  obtain ⟨j50, h50, h⟩ := e_bd h
  have hj50 : zJ g x s34.2 59 [(1, .ref (ga g 1)), (5, .int (s34.1 - (1 : Int32)))] [.int j50, .int s9.1, .int s2.1, .ref (ga g 1)] := by
    refine z_aload_n C dX2_addOne_59 rfl ?_
    refine z_iload C dX2_addOne_60 rfl ?_
    obtain ⟨v62, h62, h⟩ := e_bd h
    refine z_callVi (As := [.int (s34.1 - (1 : Int32))]) C (c_X7_isWoman l g h62) rfl O_1 rfl (gcV hsT tw_3_116 cw_X7_isWoman) rfl rfl rfl hy_X7_isWoman rfl ⟨Nat.le_of_ble_eq_true rfl, Nat.le_of_ble_eq_true rfl⟩ (Nat.le_of_ble_eq_true rfl) dX2_addOne_62 ?_
    obtain ⟨j65, h65, h⟩ := e_bd h
    have hj65 : zJ g x s34.2 74 [] [.int j65, .int j50, .int s9.1, .int s2.1, .ref (ga g 1)] := by
      obtain ⟨M74, h74, h⟩ := e_bd h
      refine z_callVv (As := [.int s2.1, .int s9.1, .int j50, .int j65]) C (c_X7_addPerson l g h74) rfl O_1 rfl (gcV hsT tw_3_117 cw_X7_addPerson) rfl rfl rfl hy_X7_addPerson rfl ⟨Nat.le_of_ble_eq_true rfl, Nat.le_of_ble_eq_true rfl⟩ (Nat.le_of_ble_eq_true rfl) dX2_addOne_74 ?_
      obtain rfl := Option.some.inj h
      exact z_vret C E dX2_addOne_77
    have h := h65
    refine z_if_eq 73 C dX2_addOne_65 (by decide) (fun hc => ?_) (fun hc => ?_)
    · have h := e_t hc h
      refine z_iconst (-1 : Int32) C dX2_addOne_73 (by decide) ?_
      obtain rfl := Option.some.inj h
      exact z_sub [] rfl hj65
    · have h := e_f hc h
      refine z_iload C dX2_addOne_68 rfl ?_
      refine z_goto 74 C dX2_addOne_70 (by decide) ?_
      obtain rfl := Option.some.inj h
      exact z_sub [] rfl hj65
  have h := h50
  refine z_if_eq 58 C dX2_addOne_50 (by decide) (fun hc => ?_) (fun hc => ?_)
  · have h := e_t hc h
    refine z_iconst (-1 : Int32) C dX2_addOne_58 (by decide) ?_
    obtain rfl := Option.some.inj h
    exact z_sub [5, 0] rfl hj50
  · have h := e_f hc h
    refine z_iload C dX2_addOne_53 rfl ?_
    refine z_goto 59 C dX2_addOne_55 (by decide) ?_
    obtain rfl := Option.some.inj h
    exact z_sub [5, 0] rfl hj50
theorem hy_X6_lay : yX6_lay.cls = RX6 ∧ yX6_lay.cls ≠ "java/lang/invoke/MethodHandle" ∧ yX6_lay.cls ≠ "java/lang/invoke/VarHandle" ∧ (parseMethodDescriptor yX6_lay.desc).map (fun d => d.parameters.length) = some 2 := by decide +kernel
def wX6_lay : List Cond := Cond.code yX6_lay cX6_lay 3 none :: TB
def f_X6_lay (qs qr nr : Nat) (M : MM) (x1 : Int32) : Option MM :=
  (if x1 < 0 then
    some M
  else
    if (M qs 0) ≤ x1 then
      some M
    else
      (z_cpy M 10 141 (0 : Int32) qr nr (x1 * (141 : Int32)) (141 : Int32)).bind fun (M29 : MM) =>
      some M29
  ).bind fun (j1 : MM) =>
    some j1
set_option maxRecDepth 100000 in
set_option maxHeartbeats 4000000 in
theorem c_X6_lay_25 (l : Launch) (g : Gx) {M : MM} {x1 : Int32} {r : MM} (h : f_X6_lay 25 29 2820 M x1 = some r) : zMv l yX6_lay wX6_lay (rmm 1 30) [.ref (ga g 25), .int x1, .ref (ga g 1)] g M r := by
  refine zMv_of (by decide) rfl (Nat.le_of_ble_eq_true rfl) rfl rfl ?_
  intro x C E
  show zJ g x M 0 [(0, .ref (ga g 25)), (1, .int x1), (2, .ref (ga g 1))] []
  unfold f_X6_lay at h
  refine z_iload_n C dX6_lay_0 rfl ?_
  obtain ⟨j1, h1, h⟩ := e_bd h
  have hj1 : zJ g x j1 32 [] [] := by
    obtain rfl := Option.some.inj h
    exact z_vret C E dX6_lay_32
  have h := h1
  refine z_if_lt 32 C dX6_lay_1 (by decide) (fun hc => ?_) (fun hc => ?_)
  · have h := e_t hc h
    obtain rfl := Option.some.inj h
    exact z_sub [] rfl hj1
  · have h := e_f hc h
    refine z_iload_n C dX6_lay_4 rfl ?_
    refine z_aload_n C dX6_lay_5 rfl ?_
    refine z_get C O_25 0 rfl (fun _ h9 => hsT _ (inX6 _ h9)) (by decide) (hsT _ tw_1_156) dX6_lay_6 rfl ?_
    refine z_icmp_ge 32 C dX6_lay_9 (by decide) (fun hc => ?_) (fun hc => ?_)
    · have h := e_t hc h
      obtain rfl := Option.some.inj h
      exact z_sub [] rfl hj1
    · have h := e_f hc h
      refine z_aload_n C dX6_lay_12 rfl ?_
      refine z_get C O_1 0 rfl (fun _ h9 => hsT _ (inX7 _ h9)) (by decide) (hsT _ tw_1_30) dX6_lay_13 rfl ?_
      refine z_iconst (0 : Int32) C dX6_lay_16 (by decide) ?_
      refine z_aload_n C dX6_lay_17 rfl ?_
      refine z_get C O_25 1 rfl (fun _ h9 => hsT _ (inX6 _ h9)) (by decide) (hsT _ tw_1_157) dX6_lay_18 rfl ?_
      refine z_iload_n C dX6_lay_21 rfl ?_
      refine z_sipush (141 : Int32) C dX6_lay_22 (by decide) ?_
      refine z_imul C dX6_lay_25 ?_
      refine z_sipush (141 : Int32) C dX6_lay_26 (by decide) ?_
      obtain ⟨M29, h29, h⟩ := e_bd h
      refine z_copy C I_10 I_29 (hsT _ tw_3_5) (hsT _ tw_3_7) (hsT _ tw_3_6) (hsT _ tw_1_14) h29 (by decide) (Nat.le_of_ble_eq_true rfl) dX6_lay_29 ?_
      obtain rfl := Option.some.inj h
      exact z_sub [] rfl hj1
set_option maxRecDepth 100000 in
set_option maxHeartbeats 4000000 in
theorem c_X6_lay_26 (l : Launch) (g : Gx) {M : MM} {x1 : Int32} {r : MM} (h : f_X6_lay 26 30 282 M x1 = some r) : zMv l yX6_lay wX6_lay (rmm 1 30) [.ref (ga g 26), .int x1, .ref (ga g 1)] g M r := by
  refine zMv_of (by decide) rfl (Nat.le_of_ble_eq_true rfl) rfl rfl ?_
  intro x C E
  show zJ g x M 0 [(0, .ref (ga g 26)), (1, .int x1), (2, .ref (ga g 1))] []
  unfold f_X6_lay at h
  refine z_iload_n C dX6_lay_0 rfl ?_
  obtain ⟨j1, h1, h⟩ := e_bd h
  have hj1 : zJ g x j1 32 [] [] := by
    obtain rfl := Option.some.inj h
    exact z_vret C E dX6_lay_32
  have h := h1
  refine z_if_lt 32 C dX6_lay_1 (by decide) (fun hc => ?_) (fun hc => ?_)
  · have h := e_t hc h
    obtain rfl := Option.some.inj h
    exact z_sub [] rfl hj1
  · have h := e_f hc h
    refine z_iload_n C dX6_lay_4 rfl ?_
    refine z_aload_n C dX6_lay_5 rfl ?_
    refine z_get C O_26 0 rfl (fun _ h9 => hsT _ (inX6 _ h9)) (by decide) (hsT _ tw_1_156) dX6_lay_6 rfl ?_
    refine z_icmp_ge 32 C dX6_lay_9 (by decide) (fun hc => ?_) (fun hc => ?_)
    · have h := e_t hc h
      obtain rfl := Option.some.inj h
      exact z_sub [] rfl hj1
    · have h := e_f hc h
      refine z_aload_n C dX6_lay_12 rfl ?_
      refine z_get C O_1 0 rfl (fun _ h9 => hsT _ (inX7 _ h9)) (by decide) (hsT _ tw_1_30) dX6_lay_13 rfl ?_
      refine z_iconst (0 : Int32) C dX6_lay_16 (by decide) ?_
      refine z_aload_n C dX6_lay_17 rfl ?_
      refine z_get C O_26 1 rfl (fun _ h9 => hsT _ (inX6 _ h9)) (by decide) (hsT _ tw_1_157) dX6_lay_18 rfl ?_
      refine z_iload_n C dX6_lay_21 rfl ?_
      refine z_sipush (141 : Int32) C dX6_lay_22 (by decide) ?_
      refine z_imul C dX6_lay_25 ?_
      refine z_sipush (141 : Int32) C dX6_lay_26 (by decide) ?_
      obtain ⟨M29, h29, h⟩ := e_bd h
      refine z_copy C I_10 I_30 (hsT _ tw_3_5) (hsT _ tw_3_7) (hsT _ tw_3_6) (hsT _ tw_1_14) h29 (by decide) (Nat.le_of_ble_eq_true rfl) dX6_lay_29 ?_
      obtain rfl := Option.some.inj h
      exact z_sub [] rfl hj1
theorem hy_X6_fetch : yX6_fetch.cls = RX6 ∧ yX6_fetch.cls ≠ "java/lang/invoke/MethodHandle" ∧ yX6_fetch.cls ≠ "java/lang/invoke/VarHandle" ∧ (parseMethodDescriptor yX6_fetch.desc).map (fun d => d.parameters.length) = some 2 := by decide +kernel
def wX6_fetch : List Cond := Cond.code yX6_fetch cX6_fetch 3 none :: TB
def f_X6_fetch (qs qr nr : Nat) (M : MM) (x1 : Int32) : Option MM :=
  (if x1 < 0 then
    some M
  else
    if (M qs 0) ≤ x1 then
      some M
    else
      (z_cpy M qr nr (x1 * (141 : Int32)) 10 141 (0 : Int32) (141 : Int32)).bind fun (M29 : MM) =>
      some M29
  ).bind fun (j1 : MM) =>
    some j1
set_option maxRecDepth 100000 in
set_option maxHeartbeats 4000000 in
theorem c_X6_fetch_25 (l : Launch) (g : Gx) {M : MM} {x1 : Int32} {r : MM} (h : f_X6_fetch 25 29 2820 M x1 = some r) : zMv l yX6_fetch wX6_fetch (rmm 1 30) [.ref (ga g 25), .int x1, .ref (ga g 1)] g M r := by
  refine zMv_of (by decide) rfl (Nat.le_of_ble_eq_true rfl) rfl rfl ?_
  intro x C E
  show zJ g x M 0 [(0, .ref (ga g 25)), (1, .int x1), (2, .ref (ga g 1))] []
  unfold f_X6_fetch at h
  refine z_iload_n C dX6_fetch_0 rfl ?_
  obtain ⟨j1, h1, h⟩ := e_bd h
  have hj1 : zJ g x j1 32 [] [] := by
    obtain rfl := Option.some.inj h
    exact z_vret C E dX6_fetch_32
  have h := h1
  refine z_if_lt 32 C dX6_fetch_1 (by decide) (fun hc => ?_) (fun hc => ?_)
  · have h := e_t hc h
    obtain rfl := Option.some.inj h
    exact z_sub [] rfl hj1
  · have h := e_f hc h
    refine z_iload_n C dX6_fetch_4 rfl ?_
    refine z_aload_n C dX6_fetch_5 rfl ?_
    refine z_get C O_25 0 rfl (fun _ h9 => hsT _ (inX6 _ h9)) (by decide) (hsT _ tw_1_156) dX6_fetch_6 rfl ?_
    refine z_icmp_ge 32 C dX6_fetch_9 (by decide) (fun hc => ?_) (fun hc => ?_)
    · have h := e_t hc h
      obtain rfl := Option.some.inj h
      exact z_sub [] rfl hj1
    · have h := e_f hc h
      refine z_aload_n C dX6_fetch_12 rfl ?_
      refine z_get C O_25 1 rfl (fun _ h9 => hsT _ (inX6 _ h9)) (by decide) (hsT _ tw_1_157) dX6_fetch_13 rfl ?_
      refine z_iload_n C dX6_fetch_16 rfl ?_
      refine z_sipush (141 : Int32) C dX6_fetch_17 (by decide) ?_
      refine z_imul C dX6_fetch_20 ?_
      refine z_aload_n C dX6_fetch_21 rfl ?_
      refine z_get C O_1 0 rfl (fun _ h9 => hsT _ (inX7 _ h9)) (by decide) (hsT _ tw_1_30) dX6_fetch_22 rfl ?_
      refine z_iconst (0 : Int32) C dX6_fetch_25 (by decide) ?_
      refine z_sipush (141 : Int32) C dX6_fetch_26 (by decide) ?_
      obtain ⟨M29, h29, h⟩ := e_bd h
      refine z_copy C I_29 I_10 (hsT _ tw_3_5) (hsT _ tw_3_7) (hsT _ tw_3_6) (hsT _ tw_1_14) h29 (by decide) (Nat.le_of_ble_eq_true rfl) dX6_fetch_29 ?_
      obtain rfl := Option.some.inj h
      exact z_sub [] rfl hj1
set_option maxRecDepth 100000 in
set_option maxHeartbeats 4000000 in
theorem c_X6_fetch_26 (l : Launch) (g : Gx) {M : MM} {x1 : Int32} {r : MM} (h : f_X6_fetch 26 30 282 M x1 = some r) : zMv l yX6_fetch wX6_fetch (rmm 1 30) [.ref (ga g 26), .int x1, .ref (ga g 1)] g M r := by
  refine zMv_of (by decide) rfl (Nat.le_of_ble_eq_true rfl) rfl rfl ?_
  intro x C E
  show zJ g x M 0 [(0, .ref (ga g 26)), (1, .int x1), (2, .ref (ga g 1))] []
  unfold f_X6_fetch at h
  refine z_iload_n C dX6_fetch_0 rfl ?_
  obtain ⟨j1, h1, h⟩ := e_bd h
  have hj1 : zJ g x j1 32 [] [] := by
    obtain rfl := Option.some.inj h
    exact z_vret C E dX6_fetch_32
  have h := h1
  refine z_if_lt 32 C dX6_fetch_1 (by decide) (fun hc => ?_) (fun hc => ?_)
  · have h := e_t hc h
    obtain rfl := Option.some.inj h
    exact z_sub [] rfl hj1
  · have h := e_f hc h
    refine z_iload_n C dX6_fetch_4 rfl ?_
    refine z_aload_n C dX6_fetch_5 rfl ?_
    refine z_get C O_26 0 rfl (fun _ h9 => hsT _ (inX6 _ h9)) (by decide) (hsT _ tw_1_156) dX6_fetch_6 rfl ?_
    refine z_icmp_ge 32 C dX6_fetch_9 (by decide) (fun hc => ?_) (fun hc => ?_)
    · have h := e_t hc h
      obtain rfl := Option.some.inj h
      exact z_sub [] rfl hj1
    · have h := e_f hc h
      refine z_aload_n C dX6_fetch_12 rfl ?_
      refine z_get C O_26 1 rfl (fun _ h9 => hsT _ (inX6 _ h9)) (by decide) (hsT _ tw_1_157) dX6_fetch_13 rfl ?_
      refine z_iload_n C dX6_fetch_16 rfl ?_
      refine z_sipush (141 : Int32) C dX6_fetch_17 (by decide) ?_
      refine z_imul C dX6_fetch_20 ?_
      refine z_aload_n C dX6_fetch_21 rfl ?_
      refine z_get C O_1 0 rfl (fun _ h9 => hsT _ (inX7 _ h9)) (by decide) (hsT _ tw_1_30) dX6_fetch_22 rfl ?_
      refine z_iconst (0 : Int32) C dX6_fetch_25 (by decide) ?_
      refine z_sipush (141 : Int32) C dX6_fetch_26 (by decide) ?_
      obtain ⟨M29, h29, h⟩ := e_bd h
      refine z_copy C I_30 I_10 (hsT _ tw_3_5) (hsT _ tw_3_7) (hsT _ tw_3_6) (hsT _ tw_1_14) h29 (by decide) (Nat.le_of_ble_eq_true rfl) dX6_fetch_29 ?_
      obtain rfl := Option.some.inj h
      exact z_sub [] rfl hj1
theorem hy_X3_isStored : yX3_isStored.cls = RX3 ∧ yX3_isStored.cls ≠ "java/lang/invoke/MethodHandle" ∧ yX3_isStored.cls ≠ "java/lang/invoke/VarHandle" ∧ (parseMethodDescriptor yX3_isStored.desc).map (fun d => d.parameters.length) = some 1 := by decide +kernel
def wX3_isStored : List Cond := Cond.code yX3_isStored cX3_isStored 2 (some .boolean) :: TB
def f_X3_isStored (M : MM) (x1 : Int32) : Option Int32 :=
  (if x1 < 0 then
    some (0 : Int32)
  else
    if (2 : Int32) ≤ x1 then
      some (0 : Int32)
    else
      (z_ld M 28 2 x1).bind fun (v14 : Int32) =>
      if v14 = 0 then
        some (0 : Int32)
      else
        some (1 : Int32)
  ).bind fun (j1 : Int32) =>
    z_rzp j1
set_option maxRecDepth 100000 in
set_option maxHeartbeats 4000000 in
theorem c_X3_isStored (l : Launch) (g : Gx) {M : MM} {x1 : Int32} {r : Int32} (h : f_X3_isStored M x1 = some r) : zMi l yX3_isStored wX3_isStored (rmm 0 0) [.ref (ga g 8), .int x1] g M r M := by
  refine zMi_of .boolean (by decide) rfl (Nat.le_of_ble_eq_true rfl) rfl rfl ?_
  intro x C E
  show zJ g x M 0 [(0, .ref (ga g 8)), (1, .int x1)] []
  unfold f_X3_isStored at h
  refine z_iload_n C dX3_isStored_0 rfl ?_
  obtain ⟨j1, h1, h⟩ := e_bd h
  have hj1 : zJ g x M 23 [] [.int j1] := by
    obtain ⟨hz, rfl⟩ := e_rzp h
    exact z_zret C E hz dX3_isStored_23
  have h := h1
  refine z_if_lt 22 C dX3_isStored_1 (by decide) (fun hc => ?_) (fun hc => ?_)
  · have h := e_t hc h
    refine z_iconst (0 : Int32) C dX3_isStored_22 (by decide) ?_
    obtain rfl := Option.some.inj h
    exact z_sub [] rfl hj1
  · have h := e_f hc h
    refine z_iload_n C dX3_isStored_4 rfl ?_
    refine z_iconst (2 : Int32) C dX3_isStored_5 (by decide) ?_
    refine z_icmp_ge 22 C dX3_isStored_6 (by decide) (fun hc => ?_) (fun hc => ?_)
    · have h := e_t hc h
      refine z_iconst (0 : Int32) C dX3_isStored_22 (by decide) ?_
      obtain rfl := Option.some.inj h
      exact z_sub [] rfl hj1
    · have h := e_f hc h
      refine z_aload_n C dX3_isStored_9 rfl ?_
      refine z_get C O_8 2 rfl (fun _ h9 => hsT _ (inX3 _ h9)) (by decide) (hsT _ tw_1_184) dX3_isStored_10 rfl ?_
      refine z_iload_n C dX3_isStored_13 rfl ?_
      obtain ⟨v14, h14, h⟩ := e_bd h
      refine z_zald C Z_28 h14 dX3_isStored_14 ?_
      refine z_if_eq 22 C dX3_isStored_15 (by decide) (fun hc => ?_) (fun hc => ?_)
      · have h := e_t hc h
        refine z_iconst (0 : Int32) C dX3_isStored_22 (by decide) ?_
        obtain rfl := Option.some.inj h
        exact z_sub [] rfl hj1
      · have h := e_f hc h
        refine z_iconst (1 : Int32) C dX3_isStored_18 (by decide) ?_
        refine z_goto 23 C dX3_isStored_19 (by decide) ?_
        obtain rfl := Option.some.inj h
        exact z_sub [] rfl hj1
theorem hy_X3_store : yX3_store.cls = RX3 ∧ yX3_store.cls ≠ "java/lang/invoke/MethodHandle" ∧ yX3_store.cls ≠ "java/lang/invoke/VarHandle" ∧ (parseMethodDescriptor yX3_store.desc).map (fun d => d.parameters.length) = some 3 := by decide +kernel
def wX3_store : List Cond := Cond.code yX3_store cX3_store 4 none :: TB
def f_X3_store (M : MM) (x1 : Int32) : Option MM :=
  if x1 < 0 then
    some M
  else
    if x1 < (2 : Int32) then
      (f_X6_lay 26 30 282 M x1).bind fun (M16 : MM) =>
      (z_sto M16 27 2 x1 (M16 9 0)).bind fun (M28 : MM) =>
      (z_stz M28 28 2 x1 (1 : Int32)).bind fun (M35 : MM) =>
      some M35
    else
      some M
set_option maxRecDepth 100000 in
set_option maxHeartbeats 4000000 in
theorem c_X3_store (l : Launch) (g : Gx) {M : MM} {x1 : Int32} {r : MM} (h : f_X3_store M x1 = some r) : zMv l yX3_store wX3_store (rmm 2 52) [.ref (ga g 8), .int x1, .ref (ga g 1), .ref (ga g 9)] g M r := by
  refine zMv_of (by decide) rfl (Nat.le_of_ble_eq_true rfl) rfl rfl ?_
  intro x C E
  show zJ g x M 0 [(0, .ref (ga g 8)), (1, .int x1), (2, .ref (ga g 1)), (3, .ref (ga g 9))] []
  unfold f_X3_store at h
  refine z_iload_n C dX3_store_0 rfl ?_
  refine z_if_lt 9 C dX3_store_1 (by decide) (fun hc => ?_) (fun hc => ?_)
  · have h := e_t hc h
    obtain rfl := Option.some.inj h
    exact z_vret C E dX3_store_9
  · have h := e_f hc h
    refine z_iload_n C dX3_store_4 rfl ?_
    refine z_iconst (2 : Int32) C dX3_store_5 (by decide) ?_
    refine z_icmp_lt 10 C dX3_store_6 (by decide) (fun hc => ?_) (fun hc => ?_)
    · have h := e_t hc h
      refine z_aload_n C dX3_store_10 rfl ?_
      refine z_get C O_8 0 rfl (fun _ h9 => hsT _ (inX3 _ h9)) (by decide) (hsT _ tw_1_182) dX3_store_11 rfl ?_
      refine z_iload_n C dX3_store_14 rfl ?_
      refine z_aload_n C dX3_store_15 rfl ?_
      obtain ⟨M16, h16, h⟩ := e_bd h
      refine z_callVv (As := [.int x1, .ref (ga g 1)]) C (c_X6_lay_26 l g h16) rfl O_26 rfl (gcV hsT tw_3_154 cw_X6_lay) rfl rfl rfl hy_X6_lay rfl ⟨Nat.le_of_ble_eq_true rfl, Nat.le_of_ble_eq_true rfl⟩ (Nat.le_of_ble_eq_true rfl) dX3_store_16 ?_
      refine z_aload_n C dX3_store_19 rfl ?_
      refine z_get C O_8 1 rfl (fun _ h9 => hsT _ (inX3 _ h9)) (by decide) (hsT _ tw_1_183) dX3_store_20 rfl ?_
      refine z_iload_n C dX3_store_23 rfl ?_
      refine z_aload_n C dX3_store_24 rfl ?_
      refine z_get C O_9 0 rfl (fun _ h9 => hsT _ (inX2 _ h9)) (by decide) (hsT _ tw_1_200) dX3_store_25 rfl ?_
      obtain ⟨M28, h28, h⟩ := e_bd h
      refine z_iast C I_27 h28 dX3_store_28 ?_
      refine z_aload_n C dX3_store_29 rfl ?_
      refine z_get C O_8 2 rfl (fun _ h9 => hsT _ (inX3 _ h9)) (by decide) (hsT _ tw_1_184) dX3_store_30 rfl ?_
      refine z_iload_n C dX3_store_33 rfl ?_
      refine z_iconst (1 : Int32) C dX3_store_34 (by decide) ?_
      obtain ⟨M35, h35, h⟩ := e_bd h
      refine z_zast C Z_28 h35 dX3_store_35 ?_
      obtain rfl := Option.some.inj h
      exact z_vret C E dX3_store_36
    · have h := e_f hc h
      obtain rfl := Option.some.inj h
      exact z_vret C E dX3_store_9
theorem hy_X3_restore : yX3_restore.cls = RX3 ∧ yX3_restore.cls ≠ "java/lang/invoke/MethodHandle" ∧ yX3_restore.cls ≠ "java/lang/invoke/VarHandle" ∧ (parseMethodDescriptor yX3_restore.desc).map (fun d => d.parameters.length) = some 3 := by decide +kernel
def wX3_restore : List Cond := Cond.code yX3_restore cX3_restore 4 none :: TB
def f_X3_restore (M : MM) (x1 : Int32) : Option MM :=
  (f_X3_isStored M x1).bind fun (v2 : Int32) =>
  if v2 = 0 then
    some M
  else
    (f_X6_fetch 26 30 282 M x1).bind fun (M15 : MM) =>
    (z_ld M15 27 2 x1).bind fun (v24 : Int32) =>
    (z_stf M15 9 0 v24).bind fun (M25 : MM) =>
    some M25
set_option maxRecDepth 100000 in
set_option maxHeartbeats 4000000 in
theorem c_X3_restore (l : Launch) (g : Gx) {M : MM} {x1 : Int32} {r : MM} (h : f_X3_restore M x1 = some r) : zMv l yX3_restore wX3_restore (rmm 2 52) [.ref (ga g 8), .int x1, .ref (ga g 1), .ref (ga g 9)] g M r := by
  refine zMv_of (by decide) rfl (Nat.le_of_ble_eq_true rfl) rfl rfl ?_
  intro x C E
  show zJ g x M 0 [(0, .ref (ga g 8)), (1, .int x1), (2, .ref (ga g 1)), (3, .ref (ga g 9))] []
  unfold f_X3_restore at h
  refine z_aload_n C dX3_restore_0 rfl ?_
  refine z_iload_n C dX3_restore_1 rfl ?_
  obtain ⟨v2, h2, h⟩ := e_bd h
  refine z_callVi (As := [.int x1]) C (c_X3_isStored l g h2) rfl O_8 rfl (gcV hsT tw_3_167 cw_X3_isStored) rfl rfl rfl hy_X3_isStored rfl ⟨Nat.le_of_ble_eq_true rfl, Nat.le_of_ble_eq_true rfl⟩ (Nat.le_of_ble_eq_true rfl) dX3_restore_2 ?_
  refine z_if_ne 9 C dX3_restore_5 (by decide) (fun hc => ?_) (fun hc => ?_)
  · have h := e_f hc h
    refine z_aload_n C dX3_restore_9 rfl ?_
    refine z_get C O_8 0 rfl (fun _ h9 => hsT _ (inX3 _ h9)) (by decide) (hsT _ tw_1_182) dX3_restore_10 rfl ?_
    refine z_iload_n C dX3_restore_13 rfl ?_
    refine z_aload_n C dX3_restore_14 rfl ?_
    obtain ⟨M15, h15, h⟩ := e_bd h
    refine z_callVv (As := [.int x1, .ref (ga g 1)]) C (c_X6_fetch_26 l g h15) rfl O_26 rfl (gcV hsT tw_3_168 cw_X6_fetch) rfl rfl rfl hy_X6_fetch rfl ⟨Nat.le_of_ble_eq_true rfl, Nat.le_of_ble_eq_true rfl⟩ (Nat.le_of_ble_eq_true rfl) dX3_restore_15 ?_
    refine z_aload_n C dX3_restore_18 rfl ?_
    refine z_aload_n C dX3_restore_19 rfl ?_
    refine z_get C O_8 1 rfl (fun _ h9 => hsT _ (inX3 _ h9)) (by decide) (hsT _ tw_1_183) dX3_restore_20 rfl ?_
    refine z_iload_n C dX3_restore_23 rfl ?_
    obtain ⟨v24, h24, h⟩ := e_bd h
    refine z_iald C I_27 h24 dX3_restore_24 ?_
    obtain ⟨M25, h25, h⟩ := e_bd h
    refine z_puti tyX2 C O_9 0 O_9_0 rfl (fun _ h9 => hsT _ (inX2 _ h9)) tyX2_ok nmX2 (by decide) rfl (Nat.le_of_ble_eq_true rfl) (hsT _ tw_1_200) dX3_restore_25 rfl h25 ?_
    obtain rfl := Option.some.inj h
    exact z_vret C E dX3_restore_28
  · have h := e_t hc h
    obtain rfl := Option.some.inj h
    exact z_vret C E dX3_restore_8
theorem hy_X5_remember : yX5_remember.cls = RX5 ∧ yX5_remember.cls ≠ "java/lang/invoke/MethodHandle" ∧ yX5_remember.cls ≠ "java/lang/invoke/VarHandle" ∧ (parseMethodDescriptor yX5_remember.desc).map (fun d => d.parameters.length) = some 1 := by decide +kernel
def wX5_remember : List Cond := Cond.code yX5_remember cX5_remember 2 none :: TB
def f_X5_remember (M : MM)  : Option MM :=
  (f_X6_lay 25 29 2820 M (M 7 1)).bind fun (M9 : MM) =>
  (z_rem ((M9 7 1) + (1 : Int32)) (20 : Int32)).bind fun (v21 : Int32) =>
  (z_stf M9 7 1 v21).bind fun (M22 : MM) =>
  (z_stf M22 7 2 (if (20 : Int32) < ((M22 7 2) + (1 : Int32)) then (20 : Int32) else ((M22 7 2) + (1 : Int32)))).bind fun (M37 : MM) =>
  some M37
set_option maxRecDepth 100000 in
set_option maxHeartbeats 4000000 in
theorem c_X5_remember (l : Launch) (g : Gx) {M : MM}  {r : MM} (h : f_X5_remember M  = some r) : zMv l yX5_remember wX5_remember (rmm 2 52) [.ref (ga g 7), .ref (ga g 1)] g M r := by
  refine zMv_of (by decide) rfl (Nat.le_of_ble_eq_true rfl) rfl rfl ?_
  intro x C E
  show zJ g x M 0 [(0, .ref (ga g 7)), (1, .ref (ga g 1))] []
  unfold f_X5_remember at h
  refine z_aload_n C dX5_remember_0 rfl ?_
  refine z_get C O_7 0 rfl (fun _ h9 => hsT _ (inX5 _ h9)) (by decide) (hsT _ tw_1_163) dX5_remember_1 rfl ?_
  refine z_aload_n C dX5_remember_4 rfl ?_
  refine z_get C O_7 1 rfl (fun _ h9 => hsT _ (inX5 _ h9)) (by decide) (hsT _ tw_1_164) dX5_remember_5 rfl ?_
  refine z_aload_n C dX5_remember_8 rfl ?_
  obtain ⟨M9, h9, h⟩ := e_bd h
  refine z_callVv (As := [.int (M 7 1), .ref (ga g 1)]) C (c_X6_lay_25 l g h9) rfl O_25 rfl (gcV hsT tw_3_1 cw_X6_lay) rfl rfl rfl hy_X6_lay rfl ⟨Nat.le_of_ble_eq_true rfl, Nat.le_of_ble_eq_true rfl⟩ (Nat.le_of_ble_eq_true rfl) dX5_remember_9 ?_
  refine z_aload_n C dX5_remember_12 rfl ?_
  refine z_aload_n C dX5_remember_13 rfl ?_
  refine z_get C O_7 1 rfl (fun _ h9 => hsT _ (inX5 _ h9)) (by decide) (hsT _ tw_1_164) dX5_remember_14 rfl ?_
  refine z_iconst (1 : Int32) C dX5_remember_17 (by decide) ?_
  refine z_iadd C dX5_remember_18 ?_
  refine z_bipush (20 : Int32) C dX5_remember_19 (by decide) ?_
  obtain ⟨v21, h21, h⟩ := e_bd h
  refine z_irem C h21 dX5_remember_21 ?_
  obtain ⟨M22, h22, h⟩ := e_bd h
  refine z_puti tyX5 C O_7 1 O_7_1 rfl (fun _ h9 => hsT _ (inX5 _ h9)) tyX5_ok nmX5 (by decide) rfl (Nat.le_of_ble_eq_true rfl) (hsT _ tw_1_164) dX5_remember_22 rfl h22 ?_
  refine z_aload_n C dX5_remember_25 rfl ?_
  refine z_aload_n C dX5_remember_26 rfl ?_
  refine z_get C O_7 2 rfl (fun _ h9 => hsT _ (inX5 _ h9)) (by decide) (hsT _ tw_1_165) dX5_remember_27 rfl ?_
  refine z_iconst (1 : Int32) C dX5_remember_30 (by decide) ?_
  refine z_iadd C dX5_remember_31 ?_
  refine z_bipush (20 : Int32) C dX5_remember_32 (by decide) ?_
  refine z_min C (hsT _ tw_3_8) (hsT _ tw_2_71) (hsT _ tw_1_10) (hsT _ tw_2_72) (by decide) (Nat.le_of_ble_eq_true rfl) dX5_remember_34 ?_
  obtain ⟨M37, h37, h⟩ := e_bd h
  refine z_puti tyX5 C O_7 2 O_7_2 rfl (fun _ h9 => hsT _ (inX5 _ h9)) tyX5_ok nmX5 (by decide) rfl (Nat.le_of_ble_eq_true rfl) (hsT _ tw_1_165) dX5_remember_37 rfl h37 ?_
  obtain rfl := Option.some.inj h
  exact z_vret C E dX5_remember_40
theorem hy_X5_stepBack : yX5_stepBack.cls = RX5 ∧ yX5_stepBack.cls ≠ "java/lang/invoke/MethodHandle" ∧ yX5_stepBack.cls ≠ "java/lang/invoke/VarHandle" ∧ (parseMethodDescriptor yX5_stepBack.desc).map (fun d => d.parameters.length) = some 2 := by decide +kernel
def wX5_stepBack : List Cond := Cond.code yX5_stepBack cX5_stepBack 3 none :: TB
def f_X5_stepBack (M : MM) (x2 : Int32) : Option MM :=
  if x2 < (1 : Int32) then
    some M
  else
    if x2 ≤ (M 7 2) then
      (z_rem (((M 7 1) + (20 : Int32)) - x2) (20 : Int32)).bind fun (v26 : Int32) =>
      (z_stf M 7 1 v26).bind fun (M27 : MM) =>
      (z_stf M27 7 2 ((M27 7 2) - x2)).bind fun (M37 : MM) =>
      (f_X6_fetch 25 29 2820 M37 (M37 7 1)).bind fun (M49 : MM) =>
      some M49
    else
      some M
set_option maxRecDepth 100000 in
set_option maxHeartbeats 4000000 in
theorem c_X5_stepBack (l : Launch) (g : Gx) {M : MM} {x2 : Int32} {r : MM} (h : f_X5_stepBack M x2 = some r) : zMv l yX5_stepBack wX5_stepBack (rmm 2 52) [.ref (ga g 7), .ref (ga g 1), .int x2] g M r := by
  refine zMv_of (by decide) rfl (Nat.le_of_ble_eq_true rfl) rfl rfl ?_
  intro x C E
  show zJ g x M 0 [(0, .ref (ga g 7)), (1, .ref (ga g 1)), (2, .int x2)] []
  unfold f_X5_stepBack at h
  refine z_iload_n C dX5_stepBack_0 rfl ?_
  refine z_iconst (1 : Int32) C dX5_stepBack_1 (by decide) ?_
  refine z_icmp_lt 13 C dX5_stepBack_2 (by decide) (fun hc => ?_) (fun hc => ?_)
  · have h := e_t hc h
    obtain rfl := Option.some.inj h
    exact z_vret C E dX5_stepBack_13
  · have h := e_f hc h
    refine z_iload_n C dX5_stepBack_5 rfl ?_
    refine z_aload_n C dX5_stepBack_6 rfl ?_
    refine z_get C O_7 2 rfl (fun _ h9 => hsT _ (inX5 _ h9)) (by decide) (hsT _ tw_1_165) dX5_stepBack_7 rfl ?_
    refine z_icmp_le 14 C dX5_stepBack_10 (by decide) (fun hc => ?_) (fun hc => ?_)
    · have h := e_t hc h
      refine z_aload_n C dX5_stepBack_14 rfl ?_
      refine z_aload_n C dX5_stepBack_15 rfl ?_
      refine z_get C O_7 1 rfl (fun _ h9 => hsT _ (inX5 _ h9)) (by decide) (hsT _ tw_1_164) dX5_stepBack_16 rfl ?_
      refine z_bipush (20 : Int32) C dX5_stepBack_19 (by decide) ?_
      refine z_iadd C dX5_stepBack_21 ?_
      refine z_iload_n C dX5_stepBack_22 rfl ?_
      refine z_isub C dX5_stepBack_23 ?_
      refine z_bipush (20 : Int32) C dX5_stepBack_24 (by decide) ?_
      obtain ⟨v26, h26, h⟩ := e_bd h
      refine z_irem C h26 dX5_stepBack_26 ?_
      obtain ⟨M27, h27, h⟩ := e_bd h
      refine z_puti tyX5 C O_7 1 O_7_1 rfl (fun _ h9 => hsT _ (inX5 _ h9)) tyX5_ok nmX5 (by decide) rfl (Nat.le_of_ble_eq_true rfl) (hsT _ tw_1_164) dX5_stepBack_27 rfl h27 ?_
      refine z_aload_n C dX5_stepBack_30 rfl ?_
      refine z_dup C dX5_stepBack_31 rfl ?_
      refine z_get C O_7 2 rfl (fun _ h9 => hsT _ (inX5 _ h9)) (by decide) (hsT _ tw_1_165) dX5_stepBack_32 rfl ?_
      refine z_iload_n C dX5_stepBack_35 rfl ?_
      refine z_isub C dX5_stepBack_36 ?_
      obtain ⟨M37, h37, h⟩ := e_bd h
      refine z_puti tyX5 C O_7 2 O_7_2 rfl (fun _ h9 => hsT _ (inX5 _ h9)) tyX5_ok nmX5 (by decide) rfl (Nat.le_of_ble_eq_true rfl) (hsT _ tw_1_165) dX5_stepBack_37 rfl h37 ?_
      refine z_aload_n C dX5_stepBack_40 rfl ?_
      refine z_get C O_7 0 rfl (fun _ h9 => hsT _ (inX5 _ h9)) (by decide) (hsT _ tw_1_163) dX5_stepBack_41 rfl ?_
      refine z_aload_n C dX5_stepBack_44 rfl ?_
      refine z_get C O_7 1 rfl (fun _ h9 => hsT _ (inX5 _ h9)) (by decide) (hsT _ tw_1_164) dX5_stepBack_45 rfl ?_
      refine z_aload_n C dX5_stepBack_48 rfl ?_
      obtain ⟨M49, h49, h⟩ := e_bd h
      refine z_callVv (As := [.int (M37 7 1), .ref (ga g 1)]) C (c_X6_fetch_25 l g h49) rfl O_25 rfl (gcV hsT tw_3_126 cw_X6_fetch) rfl rfl rfl hy_X6_fetch rfl ⟨Nat.le_of_ble_eq_true rfl, Nat.le_of_ble_eq_true rfl⟩ (Nat.le_of_ble_eq_true rfl) dX5_stepBack_49 ?_
      obtain rfl := Option.some.inj h
      exact z_vret C E dX5_stepBack_52
    · have h := e_f hc h
      obtain rfl := Option.some.inj h
      exact z_vret C E dX5_stepBack_13
theorem hy_X0_addEntry : yX0_addEntry.cls = RX0 ∧ yX0_addEntry.cls ≠ "java/lang/invoke/MethodHandle" ∧ yX0_addEntry.cls ≠ "java/lang/invoke/VarHandle" ∧ (parseMethodDescriptor yX0_addEntry.desc).map (fun d => d.parameters.length) = some 3 := by decide +kernel
def wX0_addEntry : List Cond := Cond.code yX0_addEntry cX0_addEntry 4 none :: TB
def f_X0_addEntry (M : MM) (x1 : Int32) (x2 : Int32) (x3 : Int32) : Option MM :=
  (if (20 : Int32) ≤ (M 6 3) then
    some M
  else
    (z_sto M 22 20 (M 6 3) x1).bind fun (M18 : MM) =>
    (z_sto M18 23 20 (M18 6 3) x2).bind fun (M28 : MM) =>
    (z_sto M28 24 20 (M28 6 3) x3).bind fun (M38 : MM) =>
    (z_stf M38 6 3 ((M38 6 3) + (1 : Int32))).bind fun (M46 : MM) =>
    some M46
  ).bind fun (j6 : MM) =>
    some j6
set_option maxRecDepth 100000 in
set_option maxHeartbeats 4000000 in
theorem c_X0_addEntry (l : Launch) (g : Gx) {M : MM} {x1 : Int32} {x2 : Int32} {x3 : Int32} {r : MM} (h : f_X0_addEntry M x1 x2 x3 = some r) : zMv l yX0_addEntry wX0_addEntry (rmm 0 0) [.ref (ga g 6), .int x1, .int x2, .int x3] g M r := by
  refine zMv_of (by decide) rfl (Nat.le_of_ble_eq_true rfl) rfl rfl ?_
  intro x C E
  show zJ g x M 0 [(0, .ref (ga g 6)), (1, .int x1), (2, .int x2), (3, .int x3)] []
  unfold f_X0_addEntry at h
  refine z_aload_n C dX0_addEntry_0 rfl ?_
  refine z_get C O_6 3 rfl (fun _ h9 => hsT _ (inX0 _ h9)) (by decide) (hsT _ tw_1_130) dX0_addEntry_1 rfl ?_
  refine z_bipush (20 : Int32) C dX0_addEntry_4 (by decide) ?_
  obtain ⟨j6, h6, h⟩ := e_bd h
  have hj6 : zJ g x j6 49 [] [] := by
    obtain rfl := Option.some.inj h
    exact z_vret C E dX0_addEntry_49
  have h := h6
  refine z_icmp_ge 49 C dX0_addEntry_6 (by decide) (fun hc => ?_) (fun hc => ?_)
  · have h := e_t hc h
    obtain rfl := Option.some.inj h
    exact z_sub [] rfl hj6
  · have h := e_f hc h
    refine z_aload_n C dX0_addEntry_9 rfl ?_
    refine z_get C O_6 0 rfl (fun _ h9 => hsT _ (inX0 _ h9)) (by decide) (hsT _ tw_1_127) dX0_addEntry_10 rfl ?_
    refine z_aload_n C dX0_addEntry_13 rfl ?_
    refine z_get C O_6 3 rfl (fun _ h9 => hsT _ (inX0 _ h9)) (by decide) (hsT _ tw_1_130) dX0_addEntry_14 rfl ?_
    refine z_iload_n C dX0_addEntry_17 rfl ?_
    obtain ⟨M18, h18, h⟩ := e_bd h
    refine z_iast C I_22 h18 dX0_addEntry_18 ?_
    refine z_aload_n C dX0_addEntry_19 rfl ?_
    refine z_get C O_6 1 rfl (fun _ h9 => hsT _ (inX0 _ h9)) (by decide) (hsT _ tw_1_128) dX0_addEntry_20 rfl ?_
    refine z_aload_n C dX0_addEntry_23 rfl ?_
    refine z_get C O_6 3 rfl (fun _ h9 => hsT _ (inX0 _ h9)) (by decide) (hsT _ tw_1_130) dX0_addEntry_24 rfl ?_
    refine z_iload_n C dX0_addEntry_27 rfl ?_
    obtain ⟨M28, h28, h⟩ := e_bd h
    refine z_iast C I_23 h28 dX0_addEntry_28 ?_
    refine z_aload_n C dX0_addEntry_29 rfl ?_
    refine z_get C O_6 2 rfl (fun _ h9 => hsT _ (inX0 _ h9)) (by decide) (hsT _ tw_1_129) dX0_addEntry_30 rfl ?_
    refine z_aload_n C dX0_addEntry_33 rfl ?_
    refine z_get C O_6 3 rfl (fun _ h9 => hsT _ (inX0 _ h9)) (by decide) (hsT _ tw_1_130) dX0_addEntry_34 rfl ?_
    refine z_iload_n C dX0_addEntry_37 rfl ?_
    obtain ⟨M38, h38, h⟩ := e_bd h
    refine z_iast C I_24 h38 dX0_addEntry_38 ?_
    refine z_aload_n C dX0_addEntry_39 rfl ?_
    refine z_dup C dX0_addEntry_40 rfl ?_
    refine z_get C O_6 3 rfl (fun _ h9 => hsT _ (inX0 _ h9)) (by decide) (hsT _ tw_1_130) dX0_addEntry_41 rfl ?_
    refine z_iconst (1 : Int32) C dX0_addEntry_44 (by decide) ?_
    refine z_iadd C dX0_addEntry_45 ?_
    obtain ⟨M46, h46, h⟩ := e_bd h
    refine z_puti tyX0 C O_6 3 O_6_3 rfl (fun _ h9 => hsT _ (inX0 _ h9)) tyX0_ok nmX0 (by decide) rfl (Nat.le_of_ble_eq_true rfl) (hsT _ tw_1_130) dX0_addEntry_46 rfl h46 ?_
    obtain rfl := Option.some.inj h
    exact z_sub [] rfl hj6
theorem hy_X0_firstWrong : yX0_firstWrong.cls = RX0 ∧ yX0_firstWrong.cls ≠ "java/lang/invoke/MethodHandle" ∧ yX0_firstWrong.cls ≠ "java/lang/invoke/VarHandle" ∧ (parseMethodDescriptor yX0_firstWrong.desc).map (fun d => d.parameters.length) = some 1 := by decide +kernel
def wX0_firstWrong : List Cond := Cond.code yX0_firstWrong cX0_firstWrong 4 (some .int) :: TB
def f_X0_firstWrong_L2 : Nat → MM → Int32 → Option (Int32)
  | 0, _, _ => none
  | n + 1, M, x2 =>
    if (M 6 3) ≤ x2 then
      some (-1 : Int32)
    else
      if (20 : Int32) ≤ x2 then
        some (-1 : Int32)
      else
        (z_ld M 22 20 x2).bind fun (v21 : Int32) =>
        (if v21 < (M 2 3) then
          some (0 : Int32)
        else
          some (1 : Int32)
        ).bind fun (j26 : Int32) =>
          if j26 = 0 then
            (z_ld M 22 20 x2).bind fun (v45 : Int32) =>
            (z_ld M 23 20 x2).bind fun (v51 : Int32) =>
            (f_X1_armsAt M v45 v51).bind fun (v52 : Int32) =>
            (z_ld M 24 20 x2).bind fun (v60 : Int32) =>
            if v52 = v60 then
              f_X0_firstWrong_L2 n M (x2 + (1 : Int32))
            else
              some x2
          else
            some x2
def f_X0_firstWrong (M : MM)  : Option Int32 :=
  f_X0_firstWrong_L2 FU M (0 : Int32)
set_option maxRecDepth 100000 in
set_option maxHeartbeats 4000000 in
theorem lp_X0_firstWrong_2 {l : Launch} {g : Gx} {x : Cx} (C : zC g x l RX0 cX0_firstWrong wX0_firstWrong (rmm 2 43) 4) {r : Int32} : ∀ (n : Nat) (M : MM) (x2 : Int32) , f_X0_firstWrong_L2 n M x2 = some r → zRi g x .int r M → zJ g x M 2 [(0, .ref (ga g 6)), (1, .ref (ga g 2)), (2, .int x2)] [] := by
  intro n
  induction n with
  | zero =>
    intro M x2 h E
    exact absurd h (by simp [f_X0_firstWrong_L2])
  | succ n ih =>
    intro M x2 h E
    rw [f_X0_firstWrong_L2] at h
    refine z_iload_n C dX0_firstWrong_2 rfl ?_
    refine z_aload_n C dX0_firstWrong_3 rfl ?_
    refine z_get C O_6 3 rfl (fun _ h9 => hsT _ (inX0 _ h9)) (by decide) (hsT _ tw_1_130) dX0_firstWrong_4 rfl ?_
    refine z_icmp_ge 72 C dX0_firstWrong_7 (by decide) (fun hc => ?_) (fun hc => ?_)
    · have h := e_t hc h
      refine z_iconst (-1 : Int32) C dX0_firstWrong_72 (by decide) ?_
      obtain rfl := Option.some.inj h
      exact z_iret C E dX0_firstWrong_73
    · have h := e_f hc h
      refine z_iload_n C dX0_firstWrong_10 rfl ?_
      refine z_bipush (20 : Int32) C dX0_firstWrong_11 (by decide) ?_
      refine z_icmp_ge 72 C dX0_firstWrong_13 (by decide) (fun hc => ?_) (fun hc => ?_)
      · have h := e_t hc h
        refine z_iconst (-1 : Int32) C dX0_firstWrong_72 (by decide) ?_
        obtain rfl := Option.some.inj h
        exact z_iret C E dX0_firstWrong_73
      · have h := e_f hc h
        refine z_aload_n C dX0_firstWrong_16 rfl ?_
        refine z_get C O_6 0 rfl (fun _ h9 => hsT _ (inX0 _ h9)) (by decide) (hsT _ tw_1_127) dX0_firstWrong_17 rfl ?_
        refine z_iload_n C dX0_firstWrong_20 rfl ?_
        obtain ⟨v21, h21, h⟩ := e_bd h
        refine z_iald C I_22 h21 dX0_firstWrong_21 ?_
        refine z_aload_n C dX0_firstWrong_22 rfl ?_
        refine z_get C O_2 3 rfl (fun _ h9 => hsT _ (inX1 _ h9)) (by decide) (hsT _ tw_1_45) dX0_firstWrong_23 rfl ?_
        obtain ⟨j26, h26, h⟩ := e_bd h
        have hj26 : zJ g x M 34 [(0, .ref (ga g 6)), (1, .ref (ga g 2)), (2, .int x2)] [.int j26] := by
          refine z_istore_n [(3, .int j26), (0, .ref (ga g 6)), (1, .ref (ga g 2)), (2, .int x2)] C dX0_firstWrong_34 (by decide) rfl ?_
          refine z_iload_n C dX0_firstWrong_35 rfl ?_
          refine z_if_ne 64 C dX0_firstWrong_36 (by decide) (fun hc => ?_) (fun hc => ?_)
          · have h := e_f hc h
            refine z_iload_n C dX0_firstWrong_64 rfl ?_
            obtain rfl := Option.some.inj h
            exact z_iret C E dX0_firstWrong_65
          · have h := e_t hc h
            refine z_aload_n C dX0_firstWrong_39 rfl ?_
            refine z_aload_n C dX0_firstWrong_40 rfl ?_
            refine z_get C O_6 0 rfl (fun _ h9 => hsT _ (inX0 _ h9)) (by decide) (hsT _ tw_1_127) dX0_firstWrong_41 rfl ?_
            refine z_iload_n C dX0_firstWrong_44 rfl ?_
            obtain ⟨v45, h45, h⟩ := e_bd h
            refine z_iald C I_22 h45 dX0_firstWrong_45 ?_
            refine z_aload_n C dX0_firstWrong_46 rfl ?_
            refine z_get C O_6 1 rfl (fun _ h9 => hsT _ (inX0 _ h9)) (by decide) (hsT _ tw_1_128) dX0_firstWrong_47 rfl ?_
            refine z_iload_n C dX0_firstWrong_50 rfl ?_
            obtain ⟨v51, h51, h⟩ := e_bd h
            refine z_iald C I_23 h51 dX0_firstWrong_51 ?_
            obtain ⟨v52, h52, h⟩ := e_bd h
            refine z_callVi (As := [.int v45, .int v51]) C (c_X1_armsAt l g h52) rfl O_2 rfl (gcV hsT tw_2_82 cw_X1_armsAt) rfl rfl rfl hy_X1_armsAt rfl ⟨Nat.le_of_ble_eq_true rfl, Nat.le_of_ble_eq_true rfl⟩ (Nat.le_of_ble_eq_true rfl) dX0_firstWrong_52 ?_
            refine z_aload_n C dX0_firstWrong_55 rfl ?_
            refine z_get C O_6 2 rfl (fun _ h9 => hsT _ (inX0 _ h9)) (by decide) (hsT _ tw_1_129) dX0_firstWrong_56 rfl ?_
            refine z_iload_n C dX0_firstWrong_59 rfl ?_
            obtain ⟨v60, h60, h⟩ := e_bd h
            refine z_iald C I_24 h60 dX0_firstWrong_60 ?_
            refine z_icmp_eq 66 C dX0_firstWrong_61 (by decide) (fun hc => ?_) (fun hc => ?_)
            · have h := e_t hc h
              refine z_iinc (v := (x2 + (1 : Int32))) [(2, .int (x2 + (1 : Int32))), (3, .int j26), (0, .ref (ga g 6)), (1, .ref (ga g 2))] C dX0_firstWrong_66 rfl rfl (by decide) rfl ?_
              refine z_goto 2 C dX0_firstWrong_69 (by decide) ?_
              refine z_sub [2, 3, 0] rfl ?_
              exact ih _ _ h E
            · have h := e_f hc h
              refine z_iload_n C dX0_firstWrong_64 rfl ?_
              obtain rfl := Option.some.inj h
              exact z_iret C E dX0_firstWrong_65
        have h := h26
        refine z_icmp_lt 33 C dX0_firstWrong_26 (by decide) (fun hc => ?_) (fun hc => ?_)
        · have h := e_t hc h
          refine z_iconst (0 : Int32) C dX0_firstWrong_33 (by decide) ?_
          obtain rfl := Option.some.inj h
          exact z_sub [0, 1, 2] rfl hj26
        · have h := e_f hc h
          refine z_iconst (1 : Int32) C dX0_firstWrong_29 (by decide) ?_
          refine z_goto 34 C dX0_firstWrong_30 (by decide) ?_
          obtain rfl := Option.some.inj h
          exact z_sub [0, 1, 2] rfl hj26
set_option maxRecDepth 100000 in
set_option maxHeartbeats 4000000 in
theorem c_X0_firstWrong (l : Launch) (g : Gx) {M : MM}  {r : Int32} (h : f_X0_firstWrong M  = some r) : zMi l yX0_firstWrong wX0_firstWrong (rmm 2 43) [.ref (ga g 6), .ref (ga g 2)] g M r M := by
  refine zMi_of .int (by decide) rfl (Nat.le_of_ble_eq_true rfl) rfl rfl ?_
  intro x C E
  show zJ g x M 0 [(0, .ref (ga g 6)), (1, .ref (ga g 2))] []
  unfold f_X0_firstWrong at h
  refine z_iconst (0 : Int32) C dX0_firstWrong_0 (by decide) ?_
  refine z_istore_n [(2, .int (0 : Int32)), (0, .ref (ga g 6)), (1, .ref (ga g 2))] C dX0_firstWrong_1 (by decide) rfl ?_
  refine z_sub [1, 2, 0] rfl ?_
  exact lp_X0_firstWrong_2 C _ _ _ h E
