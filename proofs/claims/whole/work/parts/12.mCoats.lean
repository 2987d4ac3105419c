theorem hy_X1_sizeOf : yX1_sizeOf.cls = RX1 ∧ yX1_sizeOf.cls ≠ "java/lang/invoke/MethodHandle" ∧ yX1_sizeOf.cls ≠ "java/lang/invoke/VarHandle" ∧ (parseMethodDescriptor yX1_sizeOf.desc).map (fun d => d.parameters.length) = some 1 := by decide +kernel
def wX1_sizeOf : List Cond := Cond.code yX1_sizeOf cX1_sizeOf 2 (some .int) :: TB
def f_X1_sizeOf (M : MM) (x1 : Int32) : Option Int32 :=
  (if x1 < 0 then
    some (0 : Int32)
  else
    if (17 : Int32) ≤ x1 then
      some (0 : Int32)
    else
      (z_ld M 11 17 x1).bind fun (v15 : Int32) =>
      some v15
  ).bind fun (j1 : Int32) =>
    some j1
set_option maxRecDepth 100000 in
set_option maxHeartbeats 4000000 in
theorem c_X1_sizeOf (l : Launch) (g : Gx) {M : MM} {x1 : Int32} {r : Int32} (h : f_X1_sizeOf M x1 = some r) : zMi l yX1_sizeOf wX1_sizeOf (rmm 0 0) [.ref (ga g 2), .int x1] g M r M := by
  refine zMi_of .int (by decide) rfl (Nat.le_of_ble_eq_true rfl) rfl rfl ?_
  intro x C E
  show zJ g x M 0 [(0, .ref (ga g 2)), (1, .int x1)] []
  unfold f_X1_sizeOf at h
  refine z_iload_n C dX1_sizeOf_0 rfl ?_
  obtain ⟨j1, h1, h⟩ := e_bd h
  have hj1 : zJ g x M 20 [] [.int j1] := by
    obtain rfl := Option.some.inj h
    exact z_iret C E dX1_sizeOf_20
  have h := h1
  refine z_if_lt 19 C dX1_sizeOf_1 (by decide) (fun hc => ?_) (fun hc => ?_)
  · have h := e_t hc h
    refine z_iconst (0 : Int32) C dX1_sizeOf_19 (by decide) ?_
    obtain rfl := Option.some.inj h
    exact z_sub [] rfl hj1
  · have h := e_f hc h
    refine z_iload_n C dX1_sizeOf_4 rfl ?_
    refine z_bipush (17 : Int32) C dX1_sizeOf_5 (by decide) ?_
    refine z_icmp_ge 19 C dX1_sizeOf_7 (by decide) (fun hc => ?_) (fun hc => ?_)
    · have h := e_t hc h
      refine z_iconst (0 : Int32) C dX1_sizeOf_19 (by decide) ?_
      obtain rfl := Option.some.inj h
      exact z_sub [] rfl hj1
    · have h := e_f hc h
      refine z_aload_n C dX1_sizeOf_10 rfl ?_
      refine z_get C O_2 0 rfl (fun _ h9 => hsT _ (inX1 _ h9)) (by decide) (hsT _ tw_1_41) dX1_sizeOf_11 rfl ?_
      refine z_iload_n C dX1_sizeOf_14 rfl ?_
      obtain ⟨v15, h15, h⟩ := e_bd h
      refine z_iald C I_11 h15 dX1_sizeOf_15 ?_
      refine z_goto 20 C dX1_sizeOf_16 (by decide) ?_
      obtain rfl := Option.some.inj h
      exact z_sub [] rfl hj1
theorem hy_X1_armsAt : yX1_armsAt.cls = RX1 ∧ yX1_armsAt.cls ≠ "java/lang/invoke/MethodHandle" ∧ yX1_armsAt.cls ≠ "java/lang/invoke/VarHandle" ∧ (parseMethodDescriptor yX1_armsAt.desc).map (fun d => d.parameters.length) = some 2 := by decide +kernel
def wX1_armsAt : List Cond := Cond.code yX1_armsAt cX1_armsAt 3 (some .int) :: TB
def f_X1_armsAt (M : MM) (x1 : Int32) (x2 : Int32) : Option Int32 :=
  (if x2 < 0 then
    some (-1 : Int32)
  else
    (f_X1_sizeOf M x1).bind fun (v7 : Int32) =>
    if v7 ≤ x2 then
      some (-1 : Int32)
    else
      (z_ld M 12 170 ((x1 * (10 : Int32)) + x2)).bind fun (v23 : Int32) =>
      some v23
  ).bind fun (j1 : Int32) =>
    some j1
set_option maxRecDepth 100000 in
set_option maxHeartbeats 4000000 in
theorem c_X1_armsAt (l : Launch) (g : Gx) {M : MM} {x1 : Int32} {x2 : Int32} {r : Int32} (h : f_X1_armsAt M x1 x2 = some r) : zMi l yX1_armsAt wX1_armsAt (rmm 1 21) [.ref (ga g 2), .int x1, .int x2] g M r M := by
  refine zMi_of .int (by decide) rfl (Nat.le_of_ble_eq_true rfl) rfl rfl ?_
  intro x C E
  show zJ g x M 0 [(0, .ref (ga g 2)), (1, .int x1), (2, .int x2)] []
  unfold f_X1_armsAt at h
  refine z_iload_n C dX1_armsAt_0 rfl ?_
  obtain ⟨j1, h1, h⟩ := e_bd h
  have hj1 : zJ g x M 28 [] [.int j1] := by
    obtain rfl := Option.some.inj h
    exact z_iret C E dX1_armsAt_28
  have h := h1
  refine z_if_lt 27 C dX1_armsAt_1 (by decide) (fun hc => ?_) (fun hc => ?_)
  · have h := e_t hc h
    refine z_iconst (-1 : Int32) C dX1_armsAt_27 (by decide) ?_
    obtain rfl := Option.some.inj h
    exact z_sub [] rfl hj1
  · have h := e_f hc h
    refine z_iload_n C dX1_armsAt_4 rfl ?_
    refine z_aload_n C dX1_armsAt_5 rfl ?_
    refine z_iload_n C dX1_armsAt_6 rfl ?_
    obtain ⟨v7, h7, h⟩ := e_bd h
    refine z_callVi (As := [.int x1]) C (c_X1_sizeOf l g h7) rfl O_2 rfl (gcV hsT tw_2_24 cw_X1_sizeOf) rfl rfl rfl hy_X1_sizeOf rfl ⟨Nat.le_of_ble_eq_true rfl, Nat.le_of_ble_eq_true rfl⟩ (Nat.le_of_ble_eq_true rfl) dX1_armsAt_7 ?_
    refine z_icmp_ge 27 C dX1_armsAt_10 (by decide) (fun hc => ?_) (fun hc => ?_)
    · have h := e_t hc h
      refine z_iconst (-1 : Int32) C dX1_armsAt_27 (by decide) ?_
      obtain rfl := Option.some.inj h
      exact z_sub [] rfl hj1
    · have h := e_f hc h
      refine z_aload_n C dX1_armsAt_13 rfl ?_
      refine z_get C O_2 1 rfl (fun _ h9 => hsT _ (inX1 _ h9)) (by decide) (hsT _ tw_1_42) dX1_armsAt_14 rfl ?_
      refine z_iload_n C dX1_armsAt_17 rfl ?_
      refine z_bipush (10 : Int32) C dX1_armsAt_18 (by decide) ?_
      refine z_imul C dX1_armsAt_20 ?_
      refine z_iload_n C dX1_armsAt_21 rfl ?_
      refine z_iadd C dX1_armsAt_22 ?_
      obtain ⟨v23, h23, h⟩ := e_bd h
      refine z_iald C I_12 h23 dX1_armsAt_23 ?_
      refine z_goto 28 C dX1_armsAt_24 (by decide) ?_
      obtain rfl := Option.some.inj h
      exact z_sub [] rfl hj1
theorem hy_X1_isIn : yX1_isIn.cls ≠ "java/lang/invoke/MethodHandle" ∧ yX1_isIn.cls ≠ "java/lang/invoke/VarHandle" ∧ (parseMethodDescriptor yX1_isIn.desc).map (fun d => d.parameters.length) = some 2 := by decide +kernel
def wX1_isIn : List Cond := Cond.code yX1_isIn cX1_isIn 2 (some .boolean) :: TB
def f_X1_isIn (M : MM) (x0 : Int32) (x1 : Int32) : Option Int32 :=
  (if ((x0 >>> (x1 &&& 31)) &&& (1 : Int32)) = (1 : Int32) then
    some (1 : Int32)
  else
    some (0 : Int32)
  ).bind fun (j6 : Int32) =>
    z_rzp j6
set_option maxRecDepth 100000 in
set_option maxHeartbeats 4000000 in
theorem c_X1_isIn (l : Launch) (g : Gx) {M : MM} {x0 : Int32} {x1 : Int32} {r : Int32} (h : f_X1_isIn M x0 x1 = some r) : zMi l yX1_isIn wX1_isIn (rmm 0 0) [.int x0, .int x1] g M r M := by
  refine zMi_of .boolean (by decide) rfl (Nat.le_of_ble_eq_true rfl) rfl rfl ?_
  intro x C E
  show zJ g x M 0 [(0, .int x0), (1, .int x1)] []
  unfold f_X1_isIn at h
  refine z_iload_n C dX1_isIn_0 rfl ?_
  refine z_iload_n C dX1_isIn_1 rfl ?_
  refine z_ishr C dX1_isIn_2 ?_
  refine z_iconst (1 : Int32) C dX1_isIn_3 (by decide) ?_
  refine z_iand C dX1_isIn_4 ?_
  refine z_iconst (1 : Int32) C dX1_isIn_5 (by decide) ?_
  obtain ⟨j6, h6, h⟩ := e_bd h
  have hj6 : zJ g x M 14 [] [.int j6] := by
    obtain ⟨hz, rfl⟩ := e_rzp h
    exact z_zret C E hz dX1_isIn_14
  have h := h6
  refine z_icmp_ne 13 C dX1_isIn_6 (by decide) (fun hc => ?_) (fun hc => ?_)
  · have h := e_f hc h
    refine z_iconst (0 : Int32) C dX1_isIn_13 (by decide) ?_
    obtain rfl := Option.some.inj h
    exact z_sub [] rfl hj6
  · have h := e_t hc h
    refine z_iconst (1 : Int32) C dX1_isIn_9 (by decide) ?_
    refine z_goto 14 C dX1_isIn_10 (by decide) ?_
    obtain rfl := Option.some.inj h
    exact z_sub [] rfl hj6
theorem hy_X1_heirsOf : yX1_heirsOf.cls ≠ "java/lang/invoke/MethodHandle" ∧ yX1_heirsOf.cls ≠ "java/lang/invoke/VarHandle" ∧ (parseMethodDescriptor yX1_heirsOf.desc).map (fun d => d.parameters.length) = some 1 := by decide +kernel
def wX1_heirsOf : List Cond := Cond.code yX1_heirsOf cX1_heirsOf 5 (some .int) :: TB
def f_X1_heirsOf_L4 : Nat → MM → Int32 → Int32 → Option (Int32)
  | 0, _, _, _ => none
  | n + 1, M, x1, x2 =>
    (f_X7_people M ).bind fun (v6 : Int32) =>
    if v6 ≤ x2 then
      some x1
    else
      (f_X7_fact M x2 (2 : Int32)).bind fun (v15 : Int32) =>
      (if v15 = (-1 : Int32) then
        some x1
      else
        (f_X7_isMan M x2).bind fun (v26 : Int32) =>
        if v26 = 0 then
          some x1
        else
          some (x1 ||| ((1 : Int32) <<< (v15 &&& 31)))
      ).bind fun (j21 : Int32) =>
        f_X1_heirsOf_L4 n M j21 (x2 + (1 : Int32))
def f_X1_heirsOf_L48 : Nat → MM → Int32 → Int32 → Int32 → Option (Int32)
  | 0, _, _, _, _ => none
  | n + 1, M, x1, x2, x3 =>
    (f_X7_people M ).bind fun (v50 : Int32) =>
    if v50 ≤ x3 then
      some x2
    else
      (f_X7_fact M x3 (2 : Int32)).bind fun (v59 : Int32) =>
      (if v59 = (-1 : Int32) then
        some x2
      else
        (f_X7_isWoman M x3).bind fun (v72 : Int32) =>
        if v72 = 0 then
          some x2
        else
          (f_X1_isIn M x1 v59).bind fun (v81 : Int32) =>
          if v81 = 0 then
            some (x2 ||| ((1 : Int32) <<< (x3 &&& 31)))
          else
            some x2
      ).bind fun (j67 : Int32) =>
        f_X1_heirsOf_L48 n M x1 j67 (x3 + (1 : Int32))
def f_X1_heirsOf (M : MM)  : Option Int32 :=
  (f_X1_heirsOf_L4 FU M (0 : Int32) (0 : Int32)).bind fun (w4 : Int32) =>
  (f_X1_heirsOf_L48 FU M w4 (0 : Int32) (0 : Int32)).bind fun (w48 : Int32) =>
  some w48
set_option maxRecDepth 100000 in
set_option maxHeartbeats 4000000 in
theorem lp_X1_heirsOf_4 {l : Launch} {g : Gx} {x : Cx} (C : zC g x l RX1 cX1_heirsOf wX1_heirsOf (rmm 3 64) 5) {r : Int32} : ∀ (n : Nat) (M : MM) (x1 x2 : Int32) , f_X1_heirsOf_L4 n M x1 x2 = some r → zJ g x M 44 [(0, .ref (ga g 1)), (1, .int r)] [] → zJ g x M 4 [(0, .ref (ga g 1)), (1, .int x1), (2, .int x2)] [] := by
  intro n
  induction n with
  | zero =>
    intro M x1 x2 h hj
    exact absurd h (by simp [f_X1_heirsOf_L4])
  | succ n ih =>
    intro M x1 x2 h hj
    rw [f_X1_heirsOf_L4] at h
    refine z_iload_n C dX1_heirsOf_4 rfl ?_
    refine z_aload_n C dX1_heirsOf_5 rfl ?_
    obtain ⟨v6, h6, h⟩ := e_bd h
    refine z_callVi (As := []) C (c_X7_people l g h6) rfl O_1 rfl (gcV hsT tw_3_22 cw_X7_people) rfl rfl rfl hy_X7_people rfl ⟨Nat.le_of_ble_eq_true rfl, Nat.le_of_ble_eq_true rfl⟩ (Nat.le_of_ble_eq_true rfl) dX1_heirsOf_6 ?_
    refine z_icmp_ge 44 C dX1_heirsOf_9 (by decide) (fun hc => ?_) (fun hc => ?_)
    · have h := e_t hc h
      obtain rfl := Option.some.inj h
      exact z_sub [0, 1] rfl hj
    · have h := e_f hc h
      refine z_aload_n C dX1_heirsOf_12 rfl ?_
      refine z_iload_n C dX1_heirsOf_13 rfl ?_
      refine z_iconst (2 : Int32) C dX1_heirsOf_14 (by decide) ?_
      obtain ⟨v15, h15, h⟩ := e_bd h
      refine z_callVi (As := [.int x2, .int (2 : Int32)]) C (c_X7_fact l g h15) rfl O_1 rfl (gcV hsT tw_2_193 cw_X7_fact) rfl rfl rfl hy_X7_fact rfl ⟨Nat.le_of_ble_eq_true rfl, Nat.le_of_ble_eq_true rfl⟩ (Nat.le_of_ble_eq_true rfl) dX1_heirsOf_15 ?_
      refine z_istore_n [(3, .int v15), (0, .ref (ga g 1)), (1, .int x1), (2, .int x2)] C dX1_heirsOf_18 (by decide) rfl ?_
      refine z_iload_n C dX1_heirsOf_19 rfl ?_
      refine z_iconst (-1 : Int32) C dX1_heirsOf_20 (by decide) ?_
      obtain ⟨j21, h21, h⟩ := e_bd h
      have hj21 : zJ g x M 38 [(0, .ref (ga g 1)), (1, .int j21), (2, .int x2)] [] := by
        refine z_iinc (v := (x2 + (1 : Int32))) [(2, .int (x2 + (1 : Int32))), (0, .ref (ga g 1)), (1, .int j21)] C dX1_heirsOf_38 rfl rfl (by decide) rfl ?_
        refine z_goto 4 C dX1_heirsOf_41 (by decide) ?_
        refine z_sub [1, 2, 0] rfl ?_
        exact ih _ _ _ h hj
      have h := h21
      refine z_icmp_eq 38 C dX1_heirsOf_21 (by decide) (fun hc => ?_) (fun hc => ?_)
      · have h := e_t hc h
        obtain rfl := Option.some.inj h
        exact z_sub [1, 2, 3] rfl hj21
      · have h := e_f hc h
        refine z_aload_n C dX1_heirsOf_24 rfl ?_
        refine z_iload_n C dX1_heirsOf_25 rfl ?_
        obtain ⟨v26, h26, h⟩ := e_bd h
        refine z_callVi (As := [.int x2]) C (c_X7_isMan l g h26) rfl O_1 rfl (gcV hsT tw_3_26 cw_X7_isMan) rfl rfl rfl hy_X7_isMan rfl ⟨Nat.le_of_ble_eq_true rfl, Nat.le_of_ble_eq_true rfl⟩ (Nat.le_of_ble_eq_true rfl) dX1_heirsOf_26 ?_
        refine z_if_eq 38 C dX1_heirsOf_29 (by decide) (fun hc => ?_) (fun hc => ?_)
        · have h := e_t hc h
          obtain rfl := Option.some.inj h
          exact z_sub [1, 2, 3] rfl hj21
        · have h := e_f hc h
          refine z_iload_n C dX1_heirsOf_32 rfl ?_
          refine z_iconst (1 : Int32) C dX1_heirsOf_33 (by decide) ?_
          refine z_iload_n C dX1_heirsOf_34 rfl ?_
          refine z_ishl C dX1_heirsOf_35 ?_
          refine z_ior C dX1_heirsOf_36 ?_
          refine z_istore_n [(1, .int (x1 ||| ((1 : Int32) <<< (v15 &&& 31)))), (3, .int v15), (0, .ref (ga g 1)), (2, .int x2)] C dX1_heirsOf_37 (by decide) rfl ?_
          obtain rfl := Option.some.inj h
          exact z_sub [2, 0, 3] rfl hj21
set_option maxRecDepth 100000 in
set_option maxHeartbeats 4000000 in
theorem lp_X1_heirsOf_48 {l : Launch} {g : Gx} {x : Cx} (C : zC g x l RX1 cX1_heirsOf wX1_heirsOf (rmm 3 64) 5) {r : Int32} : ∀ (n : Nat) (M : MM) (x1 x2 x3 : Int32) , f_X1_heirsOf_L48 n M x1 x2 x3 = some r → zJ g x M 99 [(2, .int r)] [] → zJ g x M 48 [(0, .ref (ga g 1)), (1, .int x1), (2, .int x2), (3, .int x3)] [] := by
  intro n
  induction n with
  | zero =>
    intro M x1 x2 x3 h hj
    exact absurd h (by simp [f_X1_heirsOf_L48])
  | succ n ih =>
    intro M x1 x2 x3 h hj
    rw [f_X1_heirsOf_L48] at h
    refine z_iload_n C dX1_heirsOf_48 rfl ?_
    refine z_aload_n C dX1_heirsOf_49 rfl ?_
    obtain ⟨v50, h50, h⟩ := e_bd h
    refine z_callVi (As := []) C (c_X7_people l g h50) rfl O_1 rfl (gcV hsT tw_3_22 cw_X7_people) rfl rfl rfl hy_X7_people rfl ⟨Nat.le_of_ble_eq_true rfl, Nat.le_of_ble_eq_true rfl⟩ (Nat.le_of_ble_eq_true rfl) dX1_heirsOf_50 ?_
    refine z_icmp_ge 99 C dX1_heirsOf_53 (by decide) (fun hc => ?_) (fun hc => ?_)
    · have h := e_t hc h
      obtain rfl := Option.some.inj h
      exact z_sub [2] rfl hj
    · have h := e_f hc h
      refine z_aload_n C dX1_heirsOf_56 rfl ?_
      refine z_iload_n C dX1_heirsOf_57 rfl ?_
      refine z_iconst (2 : Int32) C dX1_heirsOf_58 (by decide) ?_
      obtain ⟨v59, h59, h⟩ := e_bd h
      refine z_callVi (As := [.int x3, .int (2 : Int32)]) C (c_X7_fact l g h59) rfl O_1 rfl (gcV hsT tw_2_193 cw_X7_fact) rfl rfl rfl hy_X7_fact rfl ⟨Nat.le_of_ble_eq_true rfl, Nat.le_of_ble_eq_true rfl⟩ (Nat.le_of_ble_eq_true rfl) dX1_heirsOf_59 ?_
      refine z_istore [(4, .int v59), (0, .ref (ga g 1)), (1, .int x1), (2, .int x2), (3, .int x3)] C dX1_heirsOf_62 (by decide) rfl ?_
      refine z_iload C dX1_heirsOf_64 rfl ?_
      refine z_iconst (-1 : Int32) C dX1_heirsOf_66 (by decide) ?_
      obtain ⟨j67, h67, h⟩ := e_bd h
      have hj67 : zJ g x M 93 [(0, .ref (ga g 1)), (1, .int x1), (2, .int j67), (3, .int x3)] [] := by
        refine z_iinc (v := (x3 + (1 : Int32))) [(3, .int (x3 + (1 : Int32))), (0, .ref (ga g 1)), (1, .int x1), (2, .int j67)] C dX1_heirsOf_93 rfl rfl (by decide) rfl ?_
        refine z_goto 48 C dX1_heirsOf_96 (by decide) ?_
        refine z_sub [1, 2, 3, 0] rfl ?_
        exact ih _ _ _ _ h hj
      have h := h67
      refine z_icmp_eq 93 C dX1_heirsOf_67 (by decide) (fun hc => ?_) (fun hc => ?_)
      · have h := e_t hc h
        obtain rfl := Option.some.inj h
        exact z_sub [1, 2, 3, 4] rfl hj67
      · have h := e_f hc h
        refine z_aload_n C dX1_heirsOf_70 rfl ?_
        refine z_iload_n C dX1_heirsOf_71 rfl ?_
        obtain ⟨v72, h72, h⟩ := e_bd h
        refine z_callVi (As := [.int x3]) C (c_X7_isWoman l g h72) rfl O_1 rfl (gcV hsT tw_3_27 cw_X7_isWoman) rfl rfl rfl hy_X7_isWoman rfl ⟨Nat.le_of_ble_eq_true rfl, Nat.le_of_ble_eq_true rfl⟩ (Nat.le_of_ble_eq_true rfl) dX1_heirsOf_72 ?_
        refine z_if_eq 93 C dX1_heirsOf_75 (by decide) (fun hc => ?_) (fun hc => ?_)
        · have h := e_t hc h
          obtain rfl := Option.some.inj h
          exact z_sub [1, 2, 3, 4] rfl hj67
        · have h := e_f hc h
          refine z_iload_n C dX1_heirsOf_78 rfl ?_
          refine z_iload C dX1_heirsOf_79 rfl ?_
          obtain ⟨v81, h81, h⟩ := e_bd h
          refine z_callSi (As := [.int x1, .int v59]) C (c_X1_isIn l g h81) rfl (gcS hsT tw_2_13 cw_X1_isIn) rfl rfl rfl hy_X1_isIn rfl ⟨Nat.le_of_ble_eq_true rfl, Nat.le_of_ble_eq_true rfl⟩ (Nat.le_of_ble_eq_true rfl) dX1_heirsOf_81 ?_
          refine z_if_ne 93 C dX1_heirsOf_84 (by decide) (fun hc => ?_) (fun hc => ?_)
          · have h := e_f hc h
            obtain rfl := Option.some.inj h
            exact z_sub [1, 2, 3, 4] rfl hj67
          · have h := e_t hc h
            refine z_iload_n C dX1_heirsOf_87 rfl ?_
            refine z_iconst (1 : Int32) C dX1_heirsOf_88 (by decide) ?_
            refine z_iload_n C dX1_heirsOf_89 rfl ?_
            refine z_ishl C dX1_heirsOf_90 ?_
            refine z_ior C dX1_heirsOf_91 ?_
            refine z_istore_n [(2, .int (x2 ||| ((1 : Int32) <<< (x3 &&& 31)))), (4, .int v59), (0, .ref (ga g 1)), (1, .int x1), (3, .int x3)] C dX1_heirsOf_92 (by decide) rfl ?_
            obtain rfl := Option.some.inj h
            exact z_sub [2, 3, 0, 4] rfl hj67
set_option maxRecDepth 100000 in
set_option maxHeartbeats 4000000 in
theorem c_X1_heirsOf (l : Launch) (g : Gx) {M : MM}  {r : Int32} (h : f_X1_heirsOf M  = some r) : zMi l yX1_heirsOf wX1_heirsOf (rmm 3 64) [.ref (ga g 1)] g M r M := by
  refine zMi_of .int (by decide) rfl (Nat.le_of_ble_eq_true rfl) rfl rfl ?_
  intro x C E
  show zJ g x M 0 [(0, .ref (ga g 1))] []
  unfold f_X1_heirsOf at h
  refine z_iconst (0 : Int32) C dX1_heirsOf_0 (by decide) ?_
  refine z_istore_n [(1, .int (0 : Int32)), (0, .ref (ga g 1))] C dX1_heirsOf_1 (by decide) rfl ?_
  refine z_iconst (0 : Int32) C dX1_heirsOf_2 (by decide) ?_
  refine z_istore_n [(2, .int (0 : Int32)), (1, .int (0 : Int32)), (0, .ref (ga g 1))] C dX1_heirsOf_3 (by decide) rfl ?_
  obtain ⟨w4, h4, h⟩ := e_bd h
  refine z_sub [2, 1, 0] rfl ?_
  refine lp_X1_heirsOf_4 C _ _ _ _ h4 ?_
  refine z_iconst (0 : Int32) C dX1_heirsOf_44 (by decide) ?_
  refine z_istore_n [(2, .int (0 : Int32)), (0, .ref (ga g 1)), (1, .int w4)] C dX1_heirsOf_45 (by decide) rfl ?_
  refine z_iconst (0 : Int32) C dX1_heirsOf_46 (by decide) ?_
  refine z_istore_n [(3, .int (0 : Int32)), (2, .int (0 : Int32)), (0, .ref (ga g 1)), (1, .int w4)] C dX1_heirsOf_47 (by decide) rfl ?_
  obtain ⟨w48, h48, h⟩ := e_bd h
  refine z_sub [2, 3, 1, 0] rfl ?_
  refine lp_X1_heirsOf_48 C _ _ _ _ _ h48 ?_
  refine z_iload_n C dX1_heirsOf_99 rfl ?_
  obtain rfl := Option.some.inj h
  exact z_iret C E dX1_heirsOf_100
theorem hy_X1_take : yX1_take.cls = RX1 ∧ yX1_take.cls ≠ "java/lang/invoke/MethodHandle" ∧ yX1_take.cls ≠ "java/lang/invoke/VarHandle" ∧ (parseMethodDescriptor yX1_take.desc).map (fun d => d.parameters.length) = some 3 := by decide +kernel
def wX1_take : List Cond := Cond.code yX1_take cX1_take 7 none :: TB
def f_X1_take_L43 : Nat → MM → Int32 → Int32 → Int32 → Int32 → Int32 → Option (MM)
  | 0, _, _, _, _, _, _ => none
  | n + 1, M, x1, x2, x3, x5, x6 =>
    if x5 ≤ x6 then
      (z_sto M 12 170 x5 x2).bind fun (M75 : MM) =>
      (z_sto M75 13 170 x5 x3).bind fun (M83 : MM) =>
      (z_ld M83 11 17 x1).bind fun (v90 : Int32) =>
      (z_sto M83 11 17 x1 (v90 + (1 : Int32))).bind fun (M93 : MM) =>
      some M93
    else
      (z_ld M 12 170 x6).bind fun (v56 : Int32) =>
      if v56 = x2 then
        some M
      else
        f_X1_take_L43 n M x1 x2 x3 x5 (x6 + (1 : Int32))
def f_X1_take (M : MM) (x1 : Int32) (x2 : Int32) (x3 : Int32) : Option MM :=
  if x1 < 0 then
    some M
  else
    if (17 : Int32) ≤ x1 then
      some M
    else
      (z_ld M 11 17 x1).bind fun (v15 : Int32) =>
      if v15 < (10 : Int32) then
        (z_ld M 11 17 x1).bind fun (v35 : Int32) =>
        f_X1_take_L43 FU M x1 x2 x3 ((x1 * (10 : Int32)) + v35) (x1 * (10 : Int32))
      else
        some M
set_option maxRecDepth 100000 in
set_option maxHeartbeats 4000000 in
theorem lp_X1_take_43 {l : Launch} {g : Gx} {x : Cx} (C : zC g x l RX1 cX1_take wX1_take (rmm 0 0) 7) {r : MM} : ∀ (n : Nat) (M : MM) (x1 x2 x3 x5 x6 : Int32) , f_X1_take_L43 n M x1 x2 x3 x5 x6 = some r → zRv g x r → zJ g x M 43 [(0, .ref (ga g 2)), (1, .int x1), (2, .int x2), (3, .int x3), (5, .int x5), (6, .int x6)] [] := by
  intro n
  induction n with
  | zero =>
    intro M x1 x2 x3 x5 x6 h E
    exact absurd h (by simp [f_X1_take_L43])
  | succ n ih =>
    intro M x1 x2 x3 x5 x6 h E
    rw [f_X1_take_L43] at h
    refine z_iload C dX1_take_43 rfl ?_
    refine z_iload C dX1_take_45 rfl ?_
    refine z_icmp_ge 68 C dX1_take_47 (by decide) (fun hc => ?_) (fun hc => ?_)
    · have h := e_t hc h
      refine z_aload_n C dX1_take_68 rfl ?_
      refine z_get C O_2 1 rfl (fun _ h9 => hsT _ (inX1 _ h9)) (by decide) (hsT _ tw_1_42) dX1_take_69 rfl ?_
      refine z_iload C dX1_take_72 rfl ?_
      refine z_iload_n C dX1_take_74 rfl ?_
      obtain ⟨M75, h75, h⟩ := e_bd h
      refine z_iast C I_12 h75 dX1_take_75 ?_
      refine z_aload_n C dX1_take_76 rfl ?_
      refine z_get C O_2 2 rfl (fun _ h9 => hsT _ (inX1 _ h9)) (by decide) (hsT _ tw_1_43) dX1_take_77 rfl ?_
      refine z_iload C dX1_take_80 rfl ?_
      refine z_iload_n C dX1_take_82 rfl ?_
      obtain ⟨M83, h83, h⟩ := e_bd h
      refine z_iast C I_13 h83 dX1_take_83 ?_
      refine z_aload_n C dX1_take_84 rfl ?_
      refine z_get C O_2 0 rfl (fun _ h9 => hsT _ (inX1 _ h9)) (by decide) (hsT _ tw_1_41) dX1_take_85 rfl ?_
      refine z_iload_n C dX1_take_88 rfl ?_
      refine z_dup2 C dX1_take_89 rfl rfl ?_
      obtain ⟨v90, h90, h⟩ := e_bd h
      refine z_iald C I_11 h90 dX1_take_90 ?_
      refine z_iconst (1 : Int32) C dX1_take_91 (by decide) ?_
      refine z_iadd C dX1_take_92 ?_
      obtain ⟨M93, h93, h⟩ := e_bd h
      refine z_iast C I_11 h93 dX1_take_93 ?_
      obtain rfl := Option.some.inj h
      exact z_vret C E dX1_take_94
    · have h := e_f hc h
      refine z_aload_n C dX1_take_50 rfl ?_
      refine z_get C O_2 1 rfl (fun _ h9 => hsT _ (inX1 _ h9)) (by decide) (hsT _ tw_1_42) dX1_take_51 rfl ?_
      refine z_iload C dX1_take_54 rfl ?_
      obtain ⟨v56, h56, h⟩ := e_bd h
      refine z_iald C I_12 h56 dX1_take_56 ?_
      refine z_iload_n C dX1_take_57 rfl ?_
      refine z_icmp_ne 62 C dX1_take_58 (by decide) (fun hc => ?_) (fun hc => ?_)
      · have h := e_f hc h
        refine z_iinc (v := (x6 + (1 : Int32))) [(6, .int (x6 + (1 : Int32))), (0, .ref (ga g 2)), (1, .int x1), (2, .int x2), (3, .int x3), (5, .int x5)] C dX1_take_62 rfl rfl (by decide) rfl ?_
        refine z_goto 43 C dX1_take_65 (by decide) ?_
        refine z_sub [1, 2, 3, 4, 5, 0] rfl ?_
        exact ih _ _ _ _ _ _ h E
      · have h := e_t hc h
        obtain rfl := Option.some.inj h
        exact z_vret C E dX1_take_61
set_option maxRecDepth 100000 in
set_option maxHeartbeats 4000000 in
theorem c_X1_take (l : Launch) (g : Gx) {M : MM} {x1 : Int32} {x2 : Int32} {x3 : Int32} {r : MM} (h : f_X1_take M x1 x2 x3 = some r) : zMv l yX1_take wX1_take (rmm 0 0) [.ref (ga g 2), .int x1, .int x2, .int x3] g M r := by
  refine zMv_of (by decide) rfl (Nat.le_of_ble_eq_true rfl) rfl rfl ?_
  intro x C E
  show zJ g x M 0 [(0, .ref (ga g 2)), (1, .int x1), (2, .int x2), (3, .int x3)] []
  unfold f_X1_take at h
  refine z_iload_n C dX1_take_0 rfl ?_
  refine z_if_lt 21 C dX1_take_1 (by decide) (fun hc => ?_) (fun hc => ?_)
  · have h := e_t hc h
    obtain rfl := Option.some.inj h
    exact z_vret C E dX1_take_21
  · have h := e_f hc h
    refine z_iload_n C dX1_take_4 rfl ?_
    refine z_bipush (17 : Int32) C dX1_take_5 (by decide) ?_
    refine z_icmp_ge 21 C dX1_take_7 (by decide) (fun hc => ?_) (fun hc => ?_)
    · have h := e_t hc h
      obtain rfl := Option.some.inj h
      exact z_vret C E dX1_take_21
    · have h := e_f hc h
      refine z_aload_n C dX1_take_10 rfl ?_
      refine z_get C O_2 0 rfl (fun _ h9 => hsT _ (inX1 _ h9)) (by decide) (hsT _ tw_1_41) dX1_take_11 rfl ?_
      refine z_iload_n C dX1_take_14 rfl ?_
      obtain ⟨v15, h15, h⟩ := e_bd h
      refine z_iald C I_11 h15 dX1_take_15 ?_
      refine z_bipush (10 : Int32) C dX1_take_16 (by decide) ?_
      refine z_icmp_lt 22 C dX1_take_18 (by decide) (fun hc => ?_) (fun hc => ?_)
      · have h := e_t hc h
        refine z_iload_n C dX1_take_22 rfl ?_
        refine z_bipush (10 : Int32) C dX1_take_23 (by decide) ?_
        refine z_imul C dX1_take_25 ?_
        refine z_istore [(4, .int (x1 * (10 : Int32))), (0, .ref (ga g 2)), (1, .int x1), (2, .int x2), (3, .int x3)] C dX1_take_26 (by decide) rfl ?_
        refine z_iload C dX1_take_28 rfl ?_
        refine z_aload_n C dX1_take_30 rfl ?_
        refine z_get C O_2 0 rfl (fun _ h9 => hsT _ (inX1 _ h9)) (by decide) (hsT _ tw_1_41) dX1_take_31 rfl ?_
        refine z_iload_n C dX1_take_34 rfl ?_
        obtain ⟨v35, h35, h⟩ := e_bd h
        refine z_iald C I_11 h35 dX1_take_35 ?_
        refine z_iadd C dX1_take_36 ?_
        refine z_istore [(5, .int ((x1 * (10 : Int32)) + v35)), (4, .int (x1 * (10 : Int32))), (0, .ref (ga g 2)), (1, .int x1), (2, .int x2), (3, .int x3)] C dX1_take_37 (by decide) rfl ?_
        refine z_iload C dX1_take_39 rfl ?_
        refine z_istore [(6, .int (x1 * (10 : Int32))), (5, .int ((x1 * (10 : Int32)) + v35)), (4, .int (x1 * (10 : Int32))), (0, .ref (ga g 2)), (1, .int x1), (2, .int x2), (3, .int x3)] C dX1_take_41 (by decide) rfl ?_
        refine z_sub [3, 4, 5, 6, 1, 0] rfl ?_
        exact lp_X1_take_43 C _ _ _ _ _ _ _ h E
      · have h := e_f hc h
        obtain rfl := Option.some.inj h
        exact z_vret C E dX1_take_21
theorem hy_X1_throughAt : yX1_throughAt.cls = RX1 ∧ yX1_throughAt.cls ≠ "java/lang/invoke/MethodHandle" ∧ yX1_throughAt.cls ≠ "java/lang/invoke/VarHandle" ∧ (parseMethodDescriptor yX1_throughAt.desc).map (fun d => d.parameters.length) = some 2 := by decide +kernel
def wX1_throughAt : List Cond := Cond.code yX1_throughAt cX1_throughAt 3 (some .int) :: TB
def f_X1_throughAt (M : MM) (x1 : Int32) (x2 : Int32) : Option Int32 :=
  (if x2 < 0 then
    some (-1 : Int32)
  else
    (f_X1_sizeOf M x1).bind fun (v7 : Int32) =>
    if v7 ≤ x2 then
      some (-1 : Int32)
    else
      (z_ld M 13 170 ((x1 * (10 : Int32)) + x2)).bind fun (v23 : Int32) =>
      some v23
  ).bind fun (j1 : Int32) =>
    some j1
set_option maxRecDepth 100000 in
set_option maxHeartbeats 4000000 in
theorem c_X1_throughAt (l : Launch) (g : Gx) {M : MM} {x1 : Int32} {x2 : Int32} {r : Int32} (h : f_X1_throughAt M x1 x2 = some r) : zMi l yX1_throughAt wX1_throughAt (rmm 1 21) [.ref (ga g 2), .int x1, .int x2] g M r M := by
  refine zMi_of .int (by decide) rfl (Nat.le_of_ble_eq_true rfl) rfl rfl ?_
  intro x C E
  show zJ g x M 0 [(0, .ref (ga g 2)), (1, .int x1), (2, .int x2)] []
  unfold f_X1_throughAt at h
  refine z_iload_n C dX1_throughAt_0 rfl ?_
  obtain ⟨j1, h1, h⟩ := e_bd h
  have hj1 : zJ g x M 28 [] [.int j1] := by
    obtain rfl := Option.some.inj h
    exact z_iret C E dX1_throughAt_28
  have h := h1
  refine z_if_lt 27 C dX1_throughAt_1 (by decide) (fun hc => ?_) (fun hc => ?_)
  · have h := e_t hc h
    refine z_iconst (-1 : Int32) C dX1_throughAt_27 (by decide) ?_
    obtain rfl := Option.some.inj h
    exact z_sub [] rfl hj1
  · have h := e_f hc h
    refine z_iload_n C dX1_throughAt_4 rfl ?_
    refine z_aload_n C dX1_throughAt_5 rfl ?_
    refine z_iload_n C dX1_throughAt_6 rfl ?_
    obtain ⟨v7, h7, h⟩ := e_bd h
    refine z_callVi (As := [.int x1]) C (c_X1_sizeOf l g h7) rfl O_2 rfl (gcV hsT tw_2_24 cw_X1_sizeOf) rfl rfl rfl hy_X1_sizeOf rfl ⟨Nat.le_of_ble_eq_true rfl, Nat.le_of_ble_eq_true rfl⟩ (Nat.le_of_ble_eq_true rfl) dX1_throughAt_7 ?_
    refine z_icmp_ge 27 C dX1_throughAt_10 (by decide) (fun hc => ?_) (fun hc => ?_)
    · have h := e_t hc h
      refine z_iconst (-1 : Int32) C dX1_throughAt_27 (by decide) ?_
      obtain rfl := Option.some.inj h
      exact z_sub [] rfl hj1
    · have h := e_f hc h
      refine z_aload_n C dX1_throughAt_13 rfl ?_
      refine z_get C O_2 2 rfl (fun _ h9 => hsT _ (inX1 _ h9)) (by decide) (hsT _ tw_1_43) dX1_throughAt_14 rfl ?_
      refine z_iload_n C dX1_throughAt_17 rfl ?_
      refine z_bipush (10 : Int32) C dX1_throughAt_18 (by decide) ?_
      refine z_imul C dX1_throughAt_20 ?_
      refine z_iload_n C dX1_throughAt_21 rfl ?_
      refine z_iadd C dX1_throughAt_22 ?_
      obtain ⟨v23, h23, h⟩ := e_bd h
      refine z_iald C I_13 h23 dX1_throughAt_23 ?_
      refine z_goto 28 C dX1_throughAt_24 (by decide) ?_
      obtain rfl := Option.some.inj h
      exact z_sub [] rfl hj1
theorem hy_X1_takeFrom : yX1_takeFrom.cls = RX1 ∧ yX1_takeFrom.cls ≠ "java/lang/invoke/MethodHandle" ∧ yX1_takeFrom.cls ≠ "java/lang/invoke/VarHandle" ∧ (parseMethodDescriptor yX1_takeFrom.desc).map (fun d => d.parameters.length) = some 3 := by decide +kernel
def wX1_takeFrom : List Cond := Cond.code yX1_takeFrom cX1_takeFrom 5 none :: TB
def f_X1_takeFrom_L3 : Nat → MM → Int32 → Int32 → Int32 → Int32 → Option (MM)
  | 0, _, _, _, _, _ => none
  | n + 1, M, x1, x2, x3, x4 =>
    if x3 ≤ x4 then
      some M
    else
      (f_X1_armsAt M x2 x4).bind fun (v15 : Int32) =>
      (f_X1_throughAt M x2 x4).bind fun (v22 : Int32) =>
      (f_X1_take M x1 v15 v22).bind fun (M25 : MM) =>
      f_X1_takeFrom_L3 n M25 x1 x2 x3 (x4 + (1 : Int32))
def f_X1_takeFrom (M : MM) (x1 : Int32) (x2 : Int32) (x3 : Int32) : Option MM :=
  (f_X1_takeFrom_L3 FU M x1 x2 x3 (0 : Int32)).bind fun (w3 : MM) =>
  some w3
set_option maxRecDepth 100000 in
set_option maxHeartbeats 4000000 in
theorem lp_X1_takeFrom_3 {l : Launch} {g : Gx} {x : Cx} (C : zC g x l RX1 cX1_takeFrom wX1_takeFrom (rmm 2 43) 5) {r : MM} : ∀ (n : Nat) (M : MM) (x1 x2 x3 x4 : Int32) , f_X1_takeFrom_L3 n M x1 x2 x3 x4 = some r → zJ g x r 34 [] [] → zJ g x M 3 [(0, .ref (ga g 2)), (1, .int x1), (2, .int x2), (3, .int x3), (4, .int x4)] [] := by
  intro n
  induction n with
  | zero =>
    intro M x1 x2 x3 x4 h hj
    exact absurd h (by simp [f_X1_takeFrom_L3])
  | succ n ih =>
    intro M x1 x2 x3 x4 h hj
    rw [f_X1_takeFrom_L3] at h
    refine z_iload C dX1_takeFrom_3 rfl ?_
    refine z_iload_n C dX1_takeFrom_5 rfl ?_
    refine z_icmp_ge 34 C dX1_takeFrom_6 (by decide) (fun hc => ?_) (fun hc => ?_)
    · have h := e_t hc h
      obtain rfl := Option.some.inj h
      exact z_sub [] rfl hj
    · have h := e_f hc h
      refine z_aload_n C dX1_takeFrom_9 rfl ?_
      refine z_iload_n C dX1_takeFrom_10 rfl ?_
      refine z_aload_n C dX1_takeFrom_11 rfl ?_
      refine z_iload_n C dX1_takeFrom_12 rfl ?_
      refine z_iload C dX1_takeFrom_13 rfl ?_
      obtain ⟨v15, h15, h⟩ := e_bd h
      refine z_callVi (As := [.int x2, .int x4]) C (c_X1_armsAt l g h15) rfl O_2 rfl (gcV hsT tw_2_28 cw_X1_armsAt) rfl rfl rfl hy_X1_armsAt rfl ⟨Nat.le_of_ble_eq_true rfl, Nat.le_of_ble_eq_true rfl⟩ (Nat.le_of_ble_eq_true rfl) dX1_takeFrom_15 ?_
      refine z_aload_n C dX1_takeFrom_18 rfl ?_
      refine z_iload_n C dX1_takeFrom_19 rfl ?_
      refine z_iload C dX1_takeFrom_20 rfl ?_
      obtain ⟨v22, h22, h⟩ := e_bd h
      refine z_callVi (As := [.int x2, .int x4]) C (c_X1_throughAt l g h22) rfl O_2 rfl (gcV hsT tw_2_198 cw_X1_throughAt) rfl rfl rfl hy_X1_throughAt rfl ⟨Nat.le_of_ble_eq_true rfl, Nat.le_of_ble_eq_true rfl⟩ (Nat.le_of_ble_eq_true rfl) dX1_takeFrom_22 ?_
      obtain ⟨M25, h25, h⟩ := e_bd h
      refine z_callVv (As := [.int x1, .int v15, .int v22]) C (c_X1_take l g h25) rfl O_2 rfl (gcV hsT tw_2_194 cw_X1_take) rfl rfl rfl hy_X1_take rfl ⟨Nat.le_of_ble_eq_true rfl, Nat.le_of_ble_eq_true rfl⟩ (Nat.le_of_ble_eq_true rfl) dX1_takeFrom_25 ?_
      refine z_iinc (v := (x4 + (1 : Int32))) [(4, .int (x4 + (1 : Int32))), (0, .ref (ga g 2)), (1, .int x1), (2, .int x2), (3, .int x3)] C dX1_takeFrom_28 rfl rfl (by decide) rfl ?_
      refine z_goto 3 C dX1_takeFrom_31 (by decide) ?_
      refine z_sub [1, 2, 3, 4, 0] rfl ?_
      exact ih _ _ _ _ _ h hj
set_option maxRecDepth 100000 in
set_option maxHeartbeats 4000000 in
theorem c_X1_takeFrom (l : Launch) (g : Gx) {M : MM} {x1 : Int32} {x2 : Int32} {x3 : Int32} {r : MM} (h : f_X1_takeFrom M x1 x2 x3 = some r) : zMv l yX1_takeFrom wX1_takeFrom (rmm 2 43) [.ref (ga g 2), .int x1, .int x2, .int x3] g M r := by
  refine zMv_of (by decide) rfl (Nat.le_of_ble_eq_true rfl) rfl rfl ?_
  intro x C E
  show zJ g x M 0 [(0, .ref (ga g 2)), (1, .int x1), (2, .int x2), (3, .int x3)] []
  unfold f_X1_takeFrom at h
  refine z_iconst (0 : Int32) C dX1_takeFrom_0 (by decide) ?_
  refine z_istore [(4, .int (0 : Int32)), (0, .ref (ga g 2)), (1, .int x1), (2, .int x2), (3, .int x3)] C dX1_takeFrom_1 (by decide) rfl ?_
  obtain ⟨w3, h3, h⟩ := e_bd h
  refine z_sub [1, 2, 3, 4, 0] rfl ?_
  refine lp_X1_takeFrom_3 C _ _ _ _ _ _ h3 ?_
  obtain rfl := Option.some.inj h
  exact z_vret C E dX1_takeFrom_34
theorem hy_X1_compose : yX1_compose.cls = RX1 ∧ yX1_compose.cls ≠ "java/lang/invoke/MethodHandle" ∧ yX1_compose.cls ≠ "java/lang/invoke/VarHandle" ∧ (parseMethodDescriptor yX1_compose.desc).map (fun d => d.parameters.length) = some 4 := by decide +kernel
def wX1_compose : List Cond := Cond.code yX1_compose cX1_compose 7 none :: TB
def f_X1_compose_T110 (M : MM) (x1 : Int32) (x3 : Int32) (x4 : Int32) (x5 : Int32) (x6 : Int32) : Option MM :=
  (f_X1_sizeOf M x3).bind fun (v115 : Int32) =>
  (f_X1_takeFrom M x1 x3 v115).bind fun (M118 : MM) =>
  (if x6 = 0 then
    some M118
  else
    if x5 = (2 : Int32) then
      some M118
    else
      (if x5 = 0 then
        (f_X1_sizeOf M118 x4).bind fun (v144 : Int32) =>
        some v144
      else
        some (1 : Int32)
      ).bind fun (j138 : Int32) =>
        (f_X1_takeFrom M118 x1 x4 j138).bind fun (M151 : MM) =>
        some M151
  ).bind fun (j123 : MM) =>
    some j123
def f_X1_compose_T86 (M : MM) (x1 : Int32) (x3 : Int32) (x4 : Int32) (x5 : Int32) (x6 : Int32) : Option MM :=
  (if x6 = 0 then
    some M
  else
    if x5 = (2 : Int32) then
      (f_X1_sizeOf M x4).bind fun (v104 : Int32) =>
      (f_X1_takeFrom M x1 x4 v104).bind fun (M107 : MM) =>
      some M107
    else
      some M
  ).bind fun (j88 : MM) =>
    f_X1_compose_T110 j88 x1 x3 x4 x5 x6
def f_X1_compose (M : MM) (x1 : Int32) (x3 : Int32) (x4 : Int32) : Option MM :=
  if x1 < 0 then
    some M
  else
    if x1 < (17 : Int32) then
      (f_X7_ruleNow M ).bind fun (v12 : Int32) =>
      (if x4 = (-1 : Int32) then
        some (0 : Int32)
      else
        (f_X1_isIn M (M 2 4) x4).bind fun (v29 : Int32) =>
        if v29 = 0 then
          some (0 : Int32)
        else
          some (1 : Int32)
      ).bind fun (j20 : Int32) =>
        (z_sto M 11 17 x1 (0 : Int32)).bind fun (M48 : MM) =>
        (if x3 = (-1 : Int32) then
          (f_X7_fact M48 x1 (1 : Int32)).bind fun (v59 : Int32) =>
          (f_X1_take M48 x1 v59 x1).bind fun (M63 : MM) =>
          some M63
        else
          (f_X1_armsAt M48 x3 (0 : Int32)).bind fun (v74 : Int32) =>
          (f_X1_throughAt M48 x3 (0 : Int32)).bind fun (v80 : Int32) =>
          (f_X1_take M48 x1 v74 v80).bind fun (M83 : MM) =>
          some M83
        ).bind fun (j51 : MM) =>
          f_X1_compose_T86 j51 x1 x3 x4 v12 j20
    else
      some M
set_option maxRecDepth 100000 in
set_option maxHeartbeats 4000000 in
theorem tl_X1_compose_110 {l : Launch} {g : Gx} {x : Cx} (C : zC g x l RX1 cX1_compose wX1_compose (rmm 3 67) 7) {M : MM} {x1 : Int32} {x3 : Int32} {x4 : Int32} {x5 : Int32} {x6 : Int32} {r : MM} (h : f_X1_compose_T110 M x1 x3 x4 x5 x6 = some r) (E : zRv g x r) : zJ g x M 110 [(0, .ref (ga g 2)), (1, .int x1), (3, .int x3), (4, .int x4), (5, .int x5), (6, .int x6)] [] := by
  unfold f_X1_compose_T110 at h
  refine z_aload_n C dX1_compose_110 rfl ?_
  refine z_iload_n C dX1_compose_111 rfl ?_
  refine z_iload_n C dX1_compose_112 rfl ?_
  refine z_aload_n C dX1_compose_113 rfl ?_
  refine z_iload_n C dX1_compose_114 rfl ?_
  obtain ⟨v115, h115, h⟩ := e_bd h
  refine z_callVi (As := [.int x3]) C (c_X1_sizeOf l g h115) rfl O_2 rfl (gcV hsT tw_2_24 cw_X1_sizeOf) rfl rfl rfl hy_X1_sizeOf rfl ⟨Nat.le_of_ble_eq_true rfl, Nat.le_of_ble_eq_true rfl⟩ (Nat.le_of_ble_eq_true rfl) dX1_compose_115 ?_
  obtain ⟨M118, h118, h⟩ := e_bd h
  refine z_callVv (As := [.int x1, .int x3, .int v115]) C (c_X1_takeFrom l g h118) rfl O_2 rfl (gcV hsT tw_2_199 cw_X1_takeFrom) rfl rfl rfl hy_X1_takeFrom rfl ⟨Nat.le_of_ble_eq_true rfl, Nat.le_of_ble_eq_true rfl⟩ (Nat.le_of_ble_eq_true rfl) dX1_compose_118 ?_
  refine z_iload C dX1_compose_121 rfl ?_
  obtain ⟨j123, h123, h⟩ := e_bd h
  have hj123 : zJ g x j123 154 [] [] := by
    obtain rfl := Option.some.inj h
    exact z_vret C E dX1_compose_154
  have h := h123
  refine z_if_eq 154 C dX1_compose_123 (by decide) (fun hc => ?_) (fun hc => ?_)
  · have h := e_t hc h
    obtain rfl := Option.some.inj h
    exact z_sub [] rfl hj123
  · have h := e_f hc h
    refine z_iload C dX1_compose_126 rfl ?_
    refine z_iconst (2 : Int32) C dX1_compose_128 (by decide) ?_
    refine z_icmp_eq 154 C dX1_compose_129 (by decide) (fun hc => ?_) (fun hc => ?_)
    · have h := e_t hc h
      obtain rfl := Option.some.inj h
      exact z_sub [] rfl hj123
    · have h := e_f hc h
      refine z_aload_n C dX1_compose_132 rfl ?_
      refine z_iload_n C dX1_compose_133 rfl ?_
      refine z_iload C dX1_compose_134 rfl ?_
      refine z_iload C dX1_compose_136 rfl ?_
      obtain ⟨j138, h138, h⟩ := e_bd h
      have hj138 : zJ g x M118 151 [] [.int j138, .int x4, .int x1, .ref (ga g 2)] := by
        obtain ⟨M151, h151, h⟩ := e_bd h
        refine z_callVv (As := [.int x1, .int x4, .int j138]) C (c_X1_takeFrom l g h151) rfl O_2 rfl (gcV hsT tw_2_199 cw_X1_takeFrom) rfl rfl rfl hy_X1_takeFrom rfl ⟨Nat.le_of_ble_eq_true rfl, Nat.le_of_ble_eq_true rfl⟩ (Nat.le_of_ble_eq_true rfl) dX1_compose_151 ?_
        obtain rfl := Option.some.inj h
        exact z_sub [] rfl hj123
      have h := h138
      refine z_if_ne 150 C dX1_compose_138 (by decide) (fun hc => ?_) (fun hc => ?_)
      · have h := e_f hc h
        refine z_iconst (1 : Int32) C dX1_compose_150 (by decide) ?_
        obtain rfl := Option.some.inj h
        exact z_sub [] rfl hj138
      · have h := e_t hc h
        refine z_aload_n C dX1_compose_141 rfl ?_
        refine z_iload C dX1_compose_142 rfl ?_
        obtain ⟨v144, h144, h⟩ := e_bd h
        refine z_callVi (As := [.int x4]) C (c_X1_sizeOf l g h144) rfl O_2 rfl (gcV hsT tw_2_24 cw_X1_sizeOf) rfl rfl rfl hy_X1_sizeOf rfl ⟨Nat.le_of_ble_eq_true rfl, Nat.le_of_ble_eq_true rfl⟩ (Nat.le_of_ble_eq_true rfl) dX1_compose_144 ?_
        refine z_goto 151 C dX1_compose_147 (by decide) ?_
        obtain rfl := Option.some.inj h
        exact z_sub [] rfl hj138
set_option maxRecDepth 100000 in
set_option maxHeartbeats 4000000 in
theorem tl_X1_compose_86 {l : Launch} {g : Gx} {x : Cx} (C : zC g x l RX1 cX1_compose wX1_compose (rmm 3 67) 7) {M : MM} {x1 : Int32} {x3 : Int32} {x4 : Int32} {x5 : Int32} {x6 : Int32} {r : MM} (h : f_X1_compose_T86 M x1 x3 x4 x5 x6 = some r) (E : zRv g x r) : zJ g x M 86 [(0, .ref (ga g 2)), (1, .int x1), (3, .int x3), (4, .int x4), (5, .int x5), (6, .int x6)] [] := by
  unfold f_X1_compose_T86 at h
  refine z_iload C dX1_compose_86 rfl ?_
  obtain ⟨j88, h88, h⟩ := e_bd h
  have hj88 : zJ g x j88 110 [(0, .ref (ga g 2)), (1, .int x1), (3, .int x3), (4, .int x4), (5, .int x5), (6, .int x6)] [] := by
    refine z_sub [0, 1, 2, 3, 4, 5] rfl ?_
    exact tl_X1_compose_110 C h E
  have h := h88
  refine z_if_eq 110 C dX1_compose_88 (by decide) (fun hc => ?_) (fun hc => ?_)
  · have h := e_t hc h
    obtain rfl := Option.some.inj h
    exact z_sub [0, 1, 2, 3, 4, 5] rfl hj88
  · have h := e_f hc h
    refine z_iload C dX1_compose_91 rfl ?_
    refine z_iconst (2 : Int32) C dX1_compose_93 (by decide) ?_
    refine z_icmp_ne 110 C dX1_compose_94 (by decide) (fun hc => ?_) (fun hc => ?_)
    · have h := e_f hc h
      obtain rfl := Option.some.inj h
      exact z_sub [0, 1, 2, 3, 4, 5] rfl hj88
    · have h := e_t hc h
      refine z_aload_n C dX1_compose_97 rfl ?_
      refine z_iload_n C dX1_compose_98 rfl ?_
      refine z_iload C dX1_compose_99 rfl ?_
      refine z_aload_n C dX1_compose_101 rfl ?_
      refine z_iload C dX1_compose_102 rfl ?_
      obtain ⟨v104, h104, h⟩ := e_bd h
      refine z_callVi (As := [.int x4]) C (c_X1_sizeOf l g h104) rfl O_2 rfl (gcV hsT tw_2_24 cw_X1_sizeOf) rfl rfl rfl hy_X1_sizeOf rfl ⟨Nat.le_of_ble_eq_true rfl, Nat.le_of_ble_eq_true rfl⟩ (Nat.le_of_ble_eq_true rfl) dX1_compose_104 ?_
      obtain ⟨M107, h107, h⟩ := e_bd h
      refine z_callVv (As := [.int x1, .int x4, .int v104]) C (c_X1_takeFrom l g h107) rfl O_2 rfl (gcV hsT tw_2_199 cw_X1_takeFrom) rfl rfl rfl hy_X1_takeFrom rfl ⟨Nat.le_of_ble_eq_true rfl, Nat.le_of_ble_eq_true rfl⟩ (Nat.le_of_ble_eq_true rfl) dX1_compose_107 ?_
      obtain rfl := Option.some.inj h
      exact z_sub [0, 1, 2, 3, 4, 5] rfl hj88
set_option maxRecDepth 100000 in
set_option maxHeartbeats 4000000 in
theorem c_X1_compose (l : Launch) (g : Gx) {M : MM} {x1 : Int32} {x3 : Int32} {x4 : Int32} {r : MM} (h : f_X1_compose M x1 x3 x4 = some r) : zMv l yX1_compose wX1_compose (rmm 3 67) [.ref (ga g 2), .int x1, .ref (ga g 1), .int x3, .int x4] g M r := by
  refine zMv_of (by decide) rfl (Nat.le_of_ble_eq_true rfl) rfl rfl ?_
  intro x C E
  show zJ g x M 0 [(0, .ref (ga g 2)), (1, .int x1), (2, .ref (ga g 1)), (3, .int x3), (4, .int x4)] []
  unfold f_X1_compose at h
  refine z_iload_n C dX1_compose_0 rfl ?_
  refine z_if_lt 10 C dX1_compose_1 (by decide) (fun hc => ?_) (fun hc => ?_)
  · have h := e_t hc h
    obtain rfl := Option.some.inj h
    exact z_vret C E dX1_compose_10
  · have h := e_f hc h
    refine z_iload_n C dX1_compose_4 rfl ?_
    refine z_bipush (17 : Int32) C dX1_compose_5 (by decide) ?_
    refine z_icmp_lt 11 C dX1_compose_7 (by decide) (fun hc => ?_) (fun hc => ?_)
    · have h := e_t hc h
      refine z_aload_n C dX1_compose_11 rfl ?_
      obtain ⟨v12, h12, h⟩ := e_bd h
      refine z_callVi (As := []) C (c_X7_ruleNow l g h12) rfl O_1 rfl (gcV hsT tw_2_192 cw_X7_ruleNow) rfl rfl rfl hy_X7_ruleNow rfl ⟨Nat.le_of_ble_eq_true rfl, Nat.le_of_ble_eq_true rfl⟩ (Nat.le_of_ble_eq_true rfl) dX1_compose_12 ?_
      refine z_istore [(5, .int v12), (0, .ref (ga g 2)), (1, .int x1), (2, .ref (ga g 1)), (3, .int x3), (4, .int x4)] C dX1_compose_15 (by decide) rfl ?_
      refine z_iload C dX1_compose_17 rfl ?_
      refine z_iconst (-1 : Int32) C dX1_compose_19 (by decide) ?_
      obtain ⟨j20, h20, h⟩ := e_bd h
      have hj20 : zJ g x M 40 [(0, .ref (ga g 2)), (1, .int x1), (2, .ref (ga g 1)), (3, .int x3), (4, .int x4), (5, .int v12)] [.int j20] := by
        refine z_istore [(6, .int j20), (0, .ref (ga g 2)), (1, .int x1), (2, .ref (ga g 1)), (3, .int x3), (4, .int x4), (5, .int v12)] C dX1_compose_40 (by decide) rfl ?_
        refine z_aload_n C dX1_compose_42 rfl ?_
        refine z_get C O_2 0 rfl (fun _ h9 => hsT _ (inX1 _ h9)) (by decide) (hsT _ tw_1_41) dX1_compose_43 rfl ?_
        refine z_iload_n C dX1_compose_46 rfl ?_
        refine z_iconst (0 : Int32) C dX1_compose_47 (by decide) ?_
        obtain ⟨M48, h48, h⟩ := e_bd h
        refine z_iast C I_11 h48 dX1_compose_48 ?_
        refine z_iload_n C dX1_compose_49 rfl ?_
        refine z_iconst (-1 : Int32) C dX1_compose_50 (by decide) ?_
        obtain ⟨j51, h51, h⟩ := e_bd h
        have hj51 : zJ g x j51 86 [(0, .ref (ga g 2)), (1, .int x1), (3, .int x3), (4, .int x4), (5, .int v12), (6, .int j20)] [] := by
          refine z_sub [0, 1, 2, 3, 4, 5] rfl ?_
          exact tl_X1_compose_86 C h E
        have h := h51
        refine z_icmp_ne 69 C dX1_compose_51 (by decide) (fun hc => ?_) (fun hc => ?_)
        · have h := e_f hc h
          refine z_aload_n C dX1_compose_69 rfl ?_
          refine z_iload_n C dX1_compose_70 rfl ?_
          refine z_aload_n C dX1_compose_71 rfl ?_
          refine z_iload_n C dX1_compose_72 rfl ?_
          refine z_iconst (0 : Int32) C dX1_compose_73 (by decide) ?_
          obtain ⟨v74, h74, h⟩ := e_bd h
          refine z_callVi (As := [.int x3, .int (0 : Int32)]) C (c_X1_armsAt l g h74) rfl O_2 rfl (gcV hsT tw_2_28 cw_X1_armsAt) rfl rfl rfl hy_X1_armsAt rfl ⟨Nat.le_of_ble_eq_true rfl, Nat.le_of_ble_eq_true rfl⟩ (Nat.le_of_ble_eq_true rfl) dX1_compose_74 ?_
          refine z_aload_n C dX1_compose_77 rfl ?_
          refine z_iload_n C dX1_compose_78 rfl ?_
          refine z_iconst (0 : Int32) C dX1_compose_79 (by decide) ?_
          obtain ⟨v80, h80, h⟩ := e_bd h
          refine z_callVi (As := [.int x3, .int (0 : Int32)]) C (c_X1_throughAt l g h80) rfl O_2 rfl (gcV hsT tw_2_198 cw_X1_throughAt) rfl rfl rfl hy_X1_throughAt rfl ⟨Nat.le_of_ble_eq_true rfl, Nat.le_of_ble_eq_true rfl⟩ (Nat.le_of_ble_eq_true rfl) dX1_compose_80 ?_
          obtain ⟨M83, h83, h⟩ := e_bd h
          refine z_callVv (As := [.int x1, .int v74, .int v80]) C (c_X1_take l g h83) rfl O_2 rfl (gcV hsT tw_2_194 cw_X1_take) rfl rfl rfl hy_X1_take rfl ⟨Nat.le_of_ble_eq_true rfl, Nat.le_of_ble_eq_true rfl⟩ (Nat.le_of_ble_eq_true rfl) dX1_compose_83 ?_
          obtain rfl := Option.some.inj h
          exact z_sub [1, 2, 4, 5, 6, 0] rfl hj51
        · have h := e_t hc h
          refine z_aload_n C dX1_compose_54 rfl ?_
          refine z_iload_n C dX1_compose_55 rfl ?_
          refine z_aload_n C dX1_compose_56 rfl ?_
          refine z_iload_n C dX1_compose_57 rfl ?_
          refine z_iconst (1 : Int32) C dX1_compose_58 (by decide) ?_
          obtain ⟨v59, h59, h⟩ := e_bd h
          refine z_callVi (As := [.int x1, .int (1 : Int32)]) C (c_X7_fact l g h59) rfl O_1 rfl (gcV hsT tw_2_193 cw_X7_fact) rfl rfl rfl hy_X7_fact rfl ⟨Nat.le_of_ble_eq_true rfl, Nat.le_of_ble_eq_true rfl⟩ (Nat.le_of_ble_eq_true rfl) dX1_compose_59 ?_
          refine z_iload_n C dX1_compose_62 rfl ?_
          obtain ⟨M63, h63, h⟩ := e_bd h
          refine z_callVv (As := [.int x1, .int v59, .int x1]) C (c_X1_take l g h63) rfl O_2 rfl (gcV hsT tw_2_194 cw_X1_take) rfl rfl rfl hy_X1_take rfl ⟨Nat.le_of_ble_eq_true rfl, Nat.le_of_ble_eq_true rfl⟩ (Nat.le_of_ble_eq_true rfl) dX1_compose_63 ?_
          refine z_goto 86 C dX1_compose_66 (by decide) ?_
          obtain rfl := Option.some.inj h
          exact z_sub [1, 2, 4, 5, 6, 0] rfl hj51
      have h := h20
      refine z_icmp_eq 39 C dX1_compose_20 (by decide) (fun hc => ?_) (fun hc => ?_)
      · have h := e_t hc h
        refine z_iconst (0 : Int32) C dX1_compose_39 (by decide) ?_
        obtain rfl := Option.some.inj h
        exact z_sub [1, 2, 3, 4, 5, 0] rfl hj20
      · have h := e_f hc h
        refine z_aload_n C dX1_compose_23 rfl ?_
        refine z_get C O_2 4 rfl (fun _ h9 => hsT _ (inX1 _ h9)) (by decide) (hsT _ tw_1_46) dX1_compose_24 rfl ?_
        refine z_iload C dX1_compose_27 rfl ?_
        obtain ⟨v29, h29, h⟩ := e_bd h
        refine z_callSi (As := [.int (M 2 4), .int x4]) C (c_X1_isIn l g h29) rfl (gcS hsT tw_2_13 cw_X1_isIn) rfl rfl rfl hy_X1_isIn rfl ⟨Nat.le_of_ble_eq_true rfl, Nat.le_of_ble_eq_true rfl⟩ (Nat.le_of_ble_eq_true rfl) dX1_compose_29 ?_
        refine z_if_eq 39 C dX1_compose_32 (by decide) (fun hc => ?_) (fun hc => ?_)
        · have h := e_t hc h
          refine z_iconst (0 : Int32) C dX1_compose_39 (by decide) ?_
          obtain rfl := Option.some.inj h
          exact z_sub [1, 2, 3, 4, 5, 0] rfl hj20
        · have h := e_f hc h
          refine z_iconst (1 : Int32) C dX1_compose_35 (by decide) ?_
          refine z_goto 40 C dX1_compose_36 (by decide) ?_
          obtain rfl := Option.some.inj h
          exact z_sub [1, 2, 3, 4, 5, 0] rfl hj20
    · have h := e_f hc h
      obtain rfl := Option.some.inj h
      exact z_vret C E dX1_compose_10
theorem hy_X1_reckon : yX1_reckon.cls = RX1 ∧ yX1_reckon.cls ≠ "java/lang/invoke/MethodHandle" ∧ yX1_reckon.cls ≠ "java/lang/invoke/VarHandle" ∧ (parseMethodDescriptor yX1_reckon.desc).map (fun d => d.parameters.length) = some 1 := by decide +kernel
def wX1_reckon : List Cond := Cond.code yX1_reckon cX1_reckon 3 none :: TB
def f_X1_reckon_L18 : Nat → MM → Int32 → Option (MM)
  | 0, _, _ => none
  | n + 1, M, x2 =>
    if (M 2 3) ≤ x2 then
      some M
    else
      (f_X7_fact M x2 (2 : Int32)).bind fun (v32 : Int32) =>
      (f_X7_fact M x2 (3 : Int32)).bind fun (v38 : Int32) =>
      (f_X1_compose M x2 v32 v38).bind fun (M41 : MM) =>
      f_X1_reckon_L18 n M41 (x2 + (1 : Int32))
def f_X1_reckon (M : MM)  : Option MM :=
  (f_X7_people M ).bind fun (v2 : Int32) =>
  (z_stf M 2 3 v2).bind fun (M5 : MM) =>
  (f_X1_heirsOf M5 ).bind fun (v10 : Int32) =>
  (z_stf M5 2 4 v10).bind fun (M13 : MM) =>
  (f_X1_reckon_L18 FU M13 (0 : Int32)).bind fun (w18 : MM) =>
  some w18
set_option maxRecDepth 100000 in
set_option maxHeartbeats 4000000 in
theorem lp_X1_reckon_18 {l : Launch} {g : Gx} {x : Cx} (C : zC g x l RX1 cX1_reckon wX1_reckon (rmm 4 93) 3) {r : MM} : ∀ (n : Nat) (M : MM) (x2 : Int32) , f_X1_reckon_L18 n M x2 = some r → zJ g x r 50 [] [] → zJ g x M 18 [(0, .ref (ga g 2)), (1, .ref (ga g 1)), (2, .int x2)] [] := by
  intro n
  induction n with
  | zero =>
    intro M x2 h hj
    exact absurd h (by simp [f_X1_reckon_L18])
  | succ n ih =>
    intro M x2 h hj
    rw [f_X1_reckon_L18] at h
    refine z_iload_n C dX1_reckon_18 rfl ?_
    refine z_aload_n C dX1_reckon_19 rfl ?_
    refine z_get C O_2 3 rfl (fun _ h9 => hsT _ (inX1 _ h9)) (by decide) (hsT _ tw_1_44) dX1_reckon_20 rfl ?_
    refine z_icmp_ge 50 C dX1_reckon_23 (by decide) (fun hc => ?_) (fun hc => ?_)
    · have h := e_t hc h
      obtain rfl := Option.some.inj h
      exact z_sub [] rfl hj
    · have h := e_f hc h
      refine z_aload_n C dX1_reckon_26 rfl ?_
      refine z_iload_n C dX1_reckon_27 rfl ?_
      refine z_aload_n C dX1_reckon_28 rfl ?_
      refine z_aload_n C dX1_reckon_29 rfl ?_
      refine z_iload_n C dX1_reckon_30 rfl ?_
      refine z_iconst (2 : Int32) C dX1_reckon_31 (by decide) ?_
      obtain ⟨v32, h32, h⟩ := e_bd h
      refine z_callVi (As := [.int x2, .int (2 : Int32)]) C (c_X7_fact l g h32) rfl O_1 rfl (gcV hsT tw_2_193 cw_X7_fact) rfl rfl rfl hy_X7_fact rfl ⟨Nat.le_of_ble_eq_true rfl, Nat.le_of_ble_eq_true rfl⟩ (Nat.le_of_ble_eq_true rfl) dX1_reckon_32 ?_
      refine z_aload_n C dX1_reckon_35 rfl ?_
      refine z_iload_n C dX1_reckon_36 rfl ?_
      refine z_iconst (3 : Int32) C dX1_reckon_37 (by decide) ?_
      obtain ⟨v38, h38, h⟩ := e_bd h
      refine z_callVi (As := [.int x2, .int (3 : Int32)]) C (c_X7_fact l g h38) rfl O_1 rfl (gcV hsT tw_2_193 cw_X7_fact) rfl rfl rfl hy_X7_fact rfl ⟨Nat.le_of_ble_eq_true rfl, Nat.le_of_ble_eq_true rfl⟩ (Nat.le_of_ble_eq_true rfl) dX1_reckon_38 ?_
      obtain ⟨M41, h41, h⟩ := e_bd h
      refine z_callVv (As := [.int x2, .ref (ga g 1), .int v32, .int v38]) C (c_X1_compose l g h41) rfl O_2 rfl (gcV hsT tw_2_188 cw_X1_compose) rfl rfl rfl hy_X1_compose rfl ⟨Nat.le_of_ble_eq_true rfl, Nat.le_of_ble_eq_true rfl⟩ (Nat.le_of_ble_eq_true rfl) dX1_reckon_41 ?_
      refine z_iinc (v := (x2 + (1 : Int32))) [(2, .int (x2 + (1 : Int32))), (0, .ref (ga g 2)), (1, .ref (ga g 1))] C dX1_reckon_44 rfl rfl (by decide) rfl ?_
      refine z_goto 18 C dX1_reckon_47 (by decide) ?_
      refine z_sub [1, 2, 0] rfl ?_
      exact ih _ _ h hj
set_option maxRecDepth 100000 in
set_option maxHeartbeats 4000000 in
theorem c_X1_reckon (l : Launch) (g : Gx) {M : MM}  {r : MM} (h : f_X1_reckon M  = some r) : zMv l yX1_reckon wX1_reckon (rmm 4 93) [.ref (ga g 2), .ref (ga g 1)] g M r := by
  refine zMv_of (by decide) rfl (Nat.le_of_ble_eq_true rfl) rfl rfl ?_
  intro x C E
  show zJ g x M 0 [(0, .ref (ga g 2)), (1, .ref (ga g 1))] []
  unfold f_X1_reckon at h
  refine z_aload_n C dX1_reckon_0 rfl ?_
  refine z_aload_n C dX1_reckon_1 rfl ?_
  obtain ⟨v2, h2, h⟩ := e_bd h
  refine z_callVi (As := []) C (c_X7_people l g h2) rfl O_1 rfl (gcV hsT tw_3_22 cw_X7_people) rfl rfl rfl hy_X7_people rfl ⟨Nat.le_of_ble_eq_true rfl, Nat.le_of_ble_eq_true rfl⟩ (Nat.le_of_ble_eq_true rfl) dX1_reckon_2 ?_
  obtain ⟨M5, h5, h⟩ := e_bd h
  refine z_puti tyX1 C O_2 3 O_2_3 rfl (fun _ h9 => hsT _ (inX1 _ h9)) tyX1_ok nmX1 (by decide) rfl (Nat.le_of_ble_eq_true rfl) (hsT _ tw_1_44) dX1_reckon_5 rfl h5 ?_
  refine z_aload_n C dX1_reckon_8 rfl ?_
  refine z_aload_n C dX1_reckon_9 rfl ?_
  obtain ⟨v10, h10, h⟩ := e_bd h
  refine z_callSi (As := [.ref (ga g 1)]) C (c_X1_heirsOf l g h10) rfl (gcS hsT tw_3_23 cw_X1_heirsOf) rfl rfl rfl hy_X1_heirsOf rfl ⟨Nat.le_of_ble_eq_true rfl, Nat.le_of_ble_eq_true rfl⟩ (Nat.le_of_ble_eq_true rfl) dX1_reckon_10 ?_
  obtain ⟨M13, h13, h⟩ := e_bd h
  refine z_puti tyX1 C O_2 4 O_2_4 rfl (fun _ h9 => hsT _ (inX1 _ h9)) tyX1_ok nmX1 (by decide) rfl (Nat.le_of_ble_eq_true rfl) (hsT _ tw_1_46) dX1_reckon_13 rfl h13 ?_
  refine z_iconst (0 : Int32) C dX1_reckon_16 (by decide) ?_
  refine z_istore_n [(2, .int (0 : Int32)), (0, .ref (ga g 2)), (1, .ref (ga g 1))] C dX1_reckon_17 (by decide) rfl ?_
  obtain ⟨w18, h18, h⟩ := e_bd h
  refine z_sub [1, 2, 0] rfl ?_
  refine lp_X1_reckon_18 C _ _ _ h18 ?_
  obtain rfl := Option.some.inj h
  exact z_vret C E dX1_reckon_50
theorem hy_X1_sizeForChild : yX1_sizeForChild.cls = RX1 ∧ yX1_sizeForChild.cls ≠ "java/lang/invoke/MethodHandle" ∧ yX1_sizeForChild.cls ≠ "java/lang/invoke/VarHandle" ∧ (parseMethodDescriptor yX1_sizeForChild.desc).map (fun d => d.parameters.length) = some 3 := by decide +kernel
def wX1_sizeForChild : List Cond := Cond.code yX1_sizeForChild cX1_sizeForChild 4 (some .int) :: TB
def f_X1_sizeForChild (M : MM) (x2 : Int32) (x3 : Int32) : Option (Int32 × MM) :=
  (f_X1_compose M (16 : Int32) x2 x3).bind fun (M6 : MM) =>
  (f_X1_sizeOf M6 (16 : Int32)).bind fun (v12 : Int32) =>
  some (v12, M6)
set_option maxRecDepth 100000 in
set_option maxHeartbeats 4000000 in
theorem c_X1_sizeForChild (l : Launch) (g : Gx) {M : MM} {x2 : Int32} {x3 : Int32} {r : Int32 × MM} (h : f_X1_sizeForChild M x2 x3 = some r) : zMi l yX1_sizeForChild wX1_sizeForChild (rmm 4 93) [.ref (ga g 2), .ref (ga g 1), .int x2, .int x3] g M r.1 r.2 := by
  refine zMi_of .int (by decide) rfl (Nat.le_of_ble_eq_true rfl) rfl rfl ?_
  intro x C E
  show zJ g x M 0 [(0, .ref (ga g 2)), (1, .ref (ga g 1)), (2, .int x2), (3, .int x3)] []
  unfold f_X1_sizeForChild at h
  refine z_aload_n C dX1_sizeForChild_0 rfl ?_
  refine z_bipush (16 : Int32) C dX1_sizeForChild_1 (by decide) ?_
  refine z_aload_n C dX1_sizeForChild_3 rfl ?_
  refine z_iload_n C dX1_sizeForChild_4 rfl ?_
  refine z_iload_n C dX1_sizeForChild_5 rfl ?_
  obtain ⟨M6, h6, h⟩ := e_bd h
  refine z_callVv (As := [.int (16 : Int32), .ref (ga g 1), .int x2, .int x3]) C (c_X1_compose l g h6) rfl O_2 rfl (gcV hsT tw_2_188 cw_X1_compose) rfl rfl rfl hy_X1_compose rfl ⟨Nat.le_of_ble_eq_true rfl, Nat.le_of_ble_eq_true rfl⟩ (Nat.le_of_ble_eq_true rfl) dX1_sizeForChild_6 ?_
  refine z_aload_n C dX1_sizeForChild_9 rfl ?_
  refine z_bipush (16 : Int32) C dX1_sizeForChild_10 (by decide) ?_
  obtain ⟨v12, h12, h⟩ := e_bd h
  refine z_callVi (As := [.int (16 : Int32)]) C (c_X1_sizeOf l g h12) rfl O_2 rfl (gcV hsT tw_2_24 cw_X1_sizeOf) rfl rfl rfl hy_X1_sizeOf rfl ⟨Nat.le_of_ble_eq_true rfl, Nat.le_of_ble_eq_true rfl⟩ (Nat.le_of_ble_eq_true rfl) dX1_sizeForChild_12 ?_
  obtain rfl := Option.some.inj h
  exact z_iret C E dX1_sizeForChild_15
theorem hy_X1_isSame : yX1_isSame.cls = RX1 ∧ yX1_isSame.cls ≠ "java/lang/invoke/MethodHandle" ∧ yX1_isSame.cls ≠ "java/lang/invoke/VarHandle" ∧ (parseMethodDescriptor yX1_isSame.desc).map (fun d => d.parameters.length) = some 2 := by decide +kernel
def wX1_isSame : List Cond := Cond.code yX1_isSame cX1_isSame 4 (some .boolean) :: TB
def f_X1_isSame_L17 : Nat → MM → Int32 → Int32 → Int32 → Option (Int32)
  | 0, _, _, _, _ => none
  | n + 1, M, x1, x2, x3 =>
    (f_X1_sizeOf M x1).bind fun (v20 : Int32) =>
    if v20 ≤ x3 then
      z_rzp (1 : Int32)
    else
      (f_X1_armsAt M x1 x3).bind fun (v29 : Int32) =>
      (f_X1_armsAt M x2 x3).bind fun (v35 : Int32) =>
      if v29 = v35 then
        f_X1_isSame_L17 n M x1 x2 (x3 + (1 : Int32))
      else
        z_rzp (0 : Int32)
def f_X1_isSame (M : MM) (x1 : Int32) (x2 : Int32) : Option Int32 :=
  (f_X1_sizeOf M x1).bind fun (v2 : Int32) =>
  (f_X1_sizeOf M x2).bind fun (v7 : Int32) =>
  if v2 = v7 then
    f_X1_isSame_L17 FU M x1 x2 (0 : Int32)
  else
    z_rzp (0 : Int32)
set_option maxRecDepth 100000 in
set_option maxHeartbeats 4000000 in
theorem lp_X1_isSame_17 {l : Launch} {g : Gx} {x : Cx} (C : zC g x l RX1 cX1_isSame wX1_isSame (rmm 2 43) 4) {r : Int32} : ∀ (n : Nat) (M : MM) (x1 x2 x3 : Int32) , f_X1_isSame_L17 n M x1 x2 x3 = some r → zRi g x .boolean r M → zJ g x M 17 [(0, .ref (ga g 2)), (1, .int x1), (2, .int x2), (3, .int x3)] [] := by
  intro n
  induction n with
  | zero =>
    intro M x1 x2 x3 h E
    exact absurd h (by simp [f_X1_isSame_L17])
  | succ n ih =>
    intro M x1 x2 x3 h E
    rw [f_X1_isSame_L17] at h
    refine z_iload_n C dX1_isSame_17 rfl ?_
    refine z_aload_n C dX1_isSame_18 rfl ?_
    refine z_iload_n C dX1_isSame_19 rfl ?_
    obtain ⟨v20, h20, h⟩ := e_bd h
    refine z_callVi (As := [.int x1]) C (c_X1_sizeOf l g h20) rfl O_2 rfl (gcV hsT tw_2_24 cw_X1_sizeOf) rfl rfl rfl hy_X1_sizeOf rfl ⟨Nat.le_of_ble_eq_true rfl, Nat.le_of_ble_eq_true rfl⟩ (Nat.le_of_ble_eq_true rfl) dX1_isSame_20 ?_
    refine z_icmp_ge 49 C dX1_isSame_23 (by decide) (fun hc => ?_) (fun hc => ?_)
    · have h := e_t hc h
      refine z_iconst (1 : Int32) C dX1_isSame_49 (by decide) ?_
      obtain ⟨hz, rfl⟩ := e_rzp h
      exact z_zret C E hz dX1_isSame_50
    · have h := e_f hc h
      refine z_aload_n C dX1_isSame_26 rfl ?_
      refine z_iload_n C dX1_isSame_27 rfl ?_
      refine z_iload_n C dX1_isSame_28 rfl ?_
      obtain ⟨v29, h29, h⟩ := e_bd h
      refine z_callVi (As := [.int x1, .int x3]) C (c_X1_armsAt l g h29) rfl O_2 rfl (gcV hsT tw_2_28 cw_X1_armsAt) rfl rfl rfl hy_X1_armsAt rfl ⟨Nat.le_of_ble_eq_true rfl, Nat.le_of_ble_eq_true rfl⟩ (Nat.le_of_ble_eq_true rfl) dX1_isSame_29 ?_
      refine z_aload_n C dX1_isSame_32 rfl ?_
      refine z_iload_n C dX1_isSame_33 rfl ?_
      refine z_iload_n C dX1_isSame_34 rfl ?_
      obtain ⟨v35, h35, h⟩ := e_bd h
      refine z_callVi (As := [.int x2, .int x3]) C (c_X1_armsAt l g h35) rfl O_2 rfl (gcV hsT tw_2_28 cw_X1_armsAt) rfl rfl rfl hy_X1_armsAt rfl ⟨Nat.le_of_ble_eq_true rfl, Nat.le_of_ble_eq_true rfl⟩ (Nat.le_of_ble_eq_true rfl) dX1_isSame_35 ?_
      refine z_icmp_eq 43 C dX1_isSame_38 (by decide) (fun hc => ?_) (fun hc => ?_)
      · have h := e_t hc h
        refine z_iinc (v := (x3 + (1 : Int32))) [(3, .int (x3 + (1 : Int32))), (0, .ref (ga g 2)), (1, .int x1), (2, .int x2)] C dX1_isSame_43 rfl rfl (by decide) rfl ?_
        refine z_goto 17 C dX1_isSame_46 (by decide) ?_
        refine z_sub [1, 2, 3, 0] rfl ?_
        exact ih _ _ _ _ h E
      · have h := e_f hc h
        refine z_iconst (0 : Int32) C dX1_isSame_41 (by decide) ?_
        obtain ⟨hz, rfl⟩ := e_rzp h
        exact z_zret C E hz dX1_isSame_42
set_option maxRecDepth 100000 in
set_option maxHeartbeats 4000000 in
theorem c_X1_isSame (l : Launch) (g : Gx) {M : MM} {x1 : Int32} {x2 : Int32} {r : Int32} (h : f_X1_isSame M x1 x2 = some r) : zMi l yX1_isSame wX1_isSame (rmm 2 43) [.ref (ga g 2), .int x1, .int x2] g M r M := by
  refine zMi_of .boolean (by decide) rfl (Nat.le_of_ble_eq_true rfl) rfl rfl ?_
  intro x C E
  show zJ g x M 0 [(0, .ref (ga g 2)), (1, .int x1), (2, .int x2)] []
  unfold f_X1_isSame at h
  refine z_aload_n C dX1_isSame_0 rfl ?_
  refine z_iload_n C dX1_isSame_1 rfl ?_
  obtain ⟨v2, h2, h⟩ := e_bd h
  refine z_callVi (As := [.int x1]) C (c_X1_sizeOf l g h2) rfl O_2 rfl (gcV hsT tw_2_24 cw_X1_sizeOf) rfl rfl rfl hy_X1_sizeOf rfl ⟨Nat.le_of_ble_eq_true rfl, Nat.le_of_ble_eq_true rfl⟩ (Nat.le_of_ble_eq_true rfl) dX1_isSame_2 ?_
  refine z_aload_n C dX1_isSame_5 rfl ?_
  refine z_iload_n C dX1_isSame_6 rfl ?_
  obtain ⟨v7, h7, h⟩ := e_bd h
  refine z_callVi (As := [.int x2]) C (c_X1_sizeOf l g h7) rfl O_2 rfl (gcV hsT tw_2_24 cw_X1_sizeOf) rfl rfl rfl hy_X1_sizeOf rfl ⟨Nat.le_of_ble_eq_true rfl, Nat.le_of_ble_eq_true rfl⟩ (Nat.le_of_ble_eq_true rfl) dX1_isSame_7 ?_
  refine z_icmp_eq 15 C dX1_isSame_10 (by decide) (fun hc => ?_) (fun hc => ?_)
  · have h := e_t hc h
    refine z_iconst (0 : Int32) C dX1_isSame_15 (by decide) ?_
    refine z_istore_n [(3, .int (0 : Int32)), (0, .ref (ga g 2)), (1, .int x1), (2, .int x2)] C dX1_isSame_16 (by decide) rfl ?_
    refine z_sub [1, 2, 3, 0] rfl ?_
    exact lp_X1_isSame_17 C _ _ _ _ _ h E
  · have h := e_f hc h
    refine z_iconst (0 : Int32) C dX1_isSame_13 (by decide) ?_
    obtain ⟨hz, rfl⟩ := e_rzp h
    exact z_zret C E hz dX1_isSame_14
theorem hy_X1_sameAs : yX1_sameAs.cls = RX1 ∧ yX1_sameAs.cls ≠ "java/lang/invoke/MethodHandle" ∧ yX1_sameAs.cls ≠ "java/lang/invoke/VarHandle" ∧ (parseMethodDescriptor yX1_sameAs.desc).map (fun d => d.parameters.length) = some 1 := by decide +kernel
def wX1_sameAs : List Cond := Cond.code yX1_sameAs cX1_sameAs 4 (some .int) :: TB
def f_X1_sameAs_L4 : Nat → MM → Int32 → Int32 → Int32 → Option (Int32)
  | 0, _, _, _, _ => none
  | n + 1, M, x1, x2, x3 =>
    if (M 2 3) ≤ x3 then
      some x2
    else
      (f_X1_isSame M x1 x3).bind fun (v15 : Int32) =>
      (if v15 = 0 then
        some x2
      else
        some (x2 ||| ((1 : Int32) <<< (x3 &&& 31)))
      ).bind fun (j18 : Int32) =>
        f_X1_sameAs_L4 n M x1 j18 (x3 + (1 : Int32))
def f_X1_sameAs (M : MM) (x1 : Int32) : Option Int32 :=
  (f_X1_sameAs_L4 FU M x1 (0 : Int32) (0 : Int32)).bind fun (w4 : Int32) =>
  some w4
set_option maxRecDepth 100000 in
set_option maxHeartbeats 4000000 in
theorem lp_X1_sameAs_4 {l : Launch} {g : Gx} {x : Cx} (C : zC g x l RX1 cX1_sameAs wX1_sameAs (rmm 3 66) 4) {r : Int32} : ∀ (n : Nat) (M : MM) (x1 x2 x3 : Int32) , f_X1_sameAs_L4 n M x1 x2 x3 = some r → zJ g x M 33 [(2, .int r)] [] → zJ g x M 4 [(0, .ref (ga g 2)), (1, .int x1), (2, .int x2), (3, .int x3)] [] := by
  intro n
  induction n with
  | zero =>
    intro M x1 x2 x3 h hj
    exact absurd h (by simp [f_X1_sameAs_L4])
  | succ n ih =>
    intro M x1 x2 x3 h hj
    rw [f_X1_sameAs_L4] at h
    refine z_iload_n C dX1_sameAs_4 rfl ?_
    refine z_aload_n C dX1_sameAs_5 rfl ?_
    refine z_get C O_2 3 rfl (fun _ h9 => hsT _ (inX1 _ h9)) (by decide) (hsT _ tw_1_44) dX1_sameAs_6 rfl ?_
    refine z_icmp_ge 33 C dX1_sameAs_9 (by decide) (fun hc => ?_) (fun hc => ?_)
    · have h := e_t hc h
      obtain rfl := Option.some.inj h
      exact z_sub [2] rfl hj
    · have h := e_f hc h
      refine z_aload_n C dX1_sameAs_12 rfl ?_
      refine z_iload_n C dX1_sameAs_13 rfl ?_
      refine z_iload_n C dX1_sameAs_14 rfl ?_
      obtain ⟨v15, h15, h⟩ := e_bd h
      refine z_callVi (As := [.int x1, .int x3]) C (c_X1_isSame l g h15) rfl O_2 rfl (gcV hsT tw_2_20 cw_X1_isSame) rfl rfl rfl hy_X1_isSame rfl ⟨Nat.le_of_ble_eq_true rfl, Nat.le_of_ble_eq_true rfl⟩ (Nat.le_of_ble_eq_true rfl) dX1_sameAs_15 ?_
      obtain ⟨j18, h18, h⟩ := e_bd h
      have hj18 : zJ g x M 27 [(0, .ref (ga g 2)), (1, .int x1), (2, .int j18), (3, .int x3)] [] := by
        refine z_iinc (v := (x3 + (1 : Int32))) [(3, .int (x3 + (1 : Int32))), (0, .ref (ga g 2)), (1, .int x1), (2, .int j18)] C dX1_sameAs_27 rfl rfl (by decide) rfl ?_
        refine z_goto 4 C dX1_sameAs_30 (by decide) ?_
        refine z_sub [1, 2, 3, 0] rfl ?_
        exact ih _ _ _ _ h hj
      have h := h18
      refine z_if_eq 27 C dX1_sameAs_18 (by decide) (fun hc => ?_) (fun hc => ?_)
      · have h := e_t hc h
        obtain rfl := Option.some.inj h
        exact z_sub [0, 1, 2, 3] rfl hj18
      · have h := e_f hc h
        refine z_iload_n C dX1_sameAs_21 rfl ?_
        refine z_iconst (1 : Int32) C dX1_sameAs_22 (by decide) ?_
        refine z_iload_n C dX1_sameAs_23 rfl ?_
        refine z_ishl C dX1_sameAs_24 ?_
        refine z_ior C dX1_sameAs_25 ?_
        refine z_istore_n [(2, .int (x2 ||| ((1 : Int32) <<< (x3 &&& 31)))), (0, .ref (ga g 2)), (1, .int x1), (3, .int x3)] C dX1_sameAs_26 (by decide) rfl ?_
        obtain rfl := Option.some.inj h
        exact z_sub [1, 2, 0, 3] rfl hj18
set_option maxRecDepth 100000 in
set_option maxHeartbeats 4000000 in
theorem c_X1_sameAs (l : Launch) (g : Gx) {M : MM} {x1 : Int32} {r : Int32} (h : f_X1_sameAs M x1 = some r) : zMi l yX1_sameAs wX1_sameAs (rmm 3 66) [.ref (ga g 2), .int x1] g M r M := by
  refine zMi_of .int (by decide) rfl (Nat.le_of_ble_eq_true rfl) rfl rfl ?_
  intro x C E
  show zJ g x M 0 [(0, .ref (ga g 2)), (1, .int x1)] []
  unfold f_X1_sameAs at h
  refine z_iconst (0 : Int32) C dX1_sameAs_0 (by decide) ?_
  refine z_istore_n [(2, .int (0 : Int32)), (0, .ref (ga g 2)), (1, .int x1)] C dX1_sameAs_1 (by decide) rfl ?_
  refine z_iconst (0 : Int32) C dX1_sameAs_2 (by decide) ?_
  refine z_istore_n [(3, .int (0 : Int32)), (2, .int (0 : Int32)), (0, .ref (ga g 2)), (1, .int x1)] C dX1_sameAs_3 (by decide) rfl ?_
  obtain ⟨w4, h4, h⟩ := e_bd h
  refine z_sub [2, 3, 1, 0] rfl ?_
  refine lp_X1_sameAs_4 C _ _ _ _ _ h4 ?_
  refine z_iload_n C dX1_sameAs_33 rfl ?_
  obtain rfl := Option.some.inj h
  exact z_iret C E dX1_sameAs_34
theorem hy_X1_unlikeCoats : yX1_unlikeCoats.cls = RX1 ∧ yX1_unlikeCoats.cls ≠ "java/lang/invoke/MethodHandle" ∧ yX1_unlikeCoats.cls ≠ "java/lang/invoke/VarHandle" ∧ (parseMethodDescriptor yX1_unlikeCoats.desc).map (fun d => d.parameters.length) = some 0 := by decide +kernel
def wX1_unlikeCoats : List Cond := Cond.code yX1_unlikeCoats cX1_unlikeCoats 4 (some .int) :: TB
def f_X1_unlikeCoats_L6 : Nat → MM → Int32 → Int32 → Int32 → Option (Int32)
  | 0, _, _, _, _ => none
  | n + 1, M, x1, x2, x3 =>
    if (M 2 3) ≤ x3 then
      some x2
    else
      (f_X1_isIn M x1 x3).bind fun (v16 : Int32) =>
      (if v16 = 0 then
        (f_X1_sameAs M x3).bind fun (v28 : Int32) =>
        some ((x1 ||| v28), (x2 + (1 : Int32)))
      else
        some (x1, x2)
      ).bind fun (j19 : Int32 × Int32) =>
        f_X1_unlikeCoats_L6 n M j19.1 j19.2 (x3 + (1 : Int32))
def f_X1_unlikeCoats (M : MM)  : Option Int32 :=
  (f_X1_unlikeCoats_L6 FU M (0 : Int32) (0 : Int32) (0 : Int32)).bind fun (w6 : Int32) =>
  some w6
set_option maxRecDepth 100000 in
set_option maxHeartbeats 4000000 in
theorem lp_X1_unlikeCoats_6 {l : Launch} {g : Gx} {x : Cx} (C : zC g x l RX1 cX1_unlikeCoats wX1_unlikeCoats (rmm 4 89) 4) {r : Int32} : ∀ (n : Nat) (M : MM) (x1 x2 x3 : Int32) , f_X1_unlikeCoats_L6 n M x1 x2 x3 = some r → zJ g x M 39 [(2, .int r)] [] → zJ g x M 6 [(0, .ref (ga g 2)), (1, .int x1), (2, .int x2), (3, .int x3)] [] := by
  intro n
  induction n with
  | zero =>
    intro M x1 x2 x3 h hj
    exact absurd h (by simp [f_X1_unlikeCoats_L6])
  | succ n ih =>
    intro M x1 x2 x3 h hj
    rw [f_X1_unlikeCoats_L6] at h
    refine z_iload_n C dX1_unlikeCoats_6 rfl ?_
    refine z_aload_n C dX1_unlikeCoats_7 rfl ?_
    refine z_get C O_2 3 rfl (fun _ h9 => hsT _ (inX1 _ h9)) (by decide) (hsT _ tw_1_44) dX1_unlikeCoats_8 rfl ?_
    refine z_icmp_ge 39 C dX1_unlikeCoats_11 (by decide) (fun hc => ?_) (fun hc => ?_)
    · have h := e_t hc h
      obtain rfl := Option.some.inj h
      exact z_sub [2] rfl hj
    · have h := e_f hc h
      refine z_iload_n C dX1_unlikeCoats_14 rfl ?_
      refine z_iload_n C dX1_unlikeCoats_15 rfl ?_
      obtain ⟨v16, h16, h⟩ := e_bd h
      refine z_callSi (As := [.int x1, .int x3]) C (c_X1_isIn l g h16) rfl (gcS hsT tw_2_13 cw_X1_isIn) rfl rfl rfl hy_X1_isIn rfl ⟨Nat.le_of_ble_eq_true rfl, Nat.le_of_ble_eq_true rfl⟩ (Nat.le_of_ble_eq_true rfl) dX1_unlikeCoats_16 ?_
      obtain ⟨j19, h19, h⟩ := e_bd h
      have hj19 : zJ g x M 33 [(0, .ref (ga g 2)), (1, .int j19.1), (2, .int j19.2), (3, .int x3)] [] := by
        refine z_iinc (v := (x3 + (1 : Int32))) [(3, .int (x3 + (1 : Int32))), (0, .ref (ga g 2)), (1, .int j19.1), (2, .int j19.2)] C dX1_unlikeCoats_33 rfl rfl (by decide) rfl ?_
        refine z_goto 6 C dX1_unlikeCoats_36 (by decide) ?_
        refine z_sub [1, 2, 3, 0] rfl ?_
        exact ih _ _ _ _ h hj
      have h := h19
      refine z_if_ne 33 C dX1_unlikeCoats_19 (by decide) (fun hc => ?_) (fun hc => ?_)
      · have h := e_f hc h
        obtain rfl := Option.some.inj h
        exact z_sub [0, 1, 2, 3] rfl hj19
      · have h := e_t hc h
        refine z_iinc (v := (x2 + (1 : Int32))) [(2, .int (x2 + (1 : Int32))), (0, .ref (ga g 2)), (1, .int x1), (3, .int x3)] C dX1_unlikeCoats_22 rfl rfl (by decide) rfl ?_
        refine z_iload_n C dX1_unlikeCoats_25 rfl ?_
        refine z_aload_n C dX1_unlikeCoats_26 rfl ?_
        refine z_iload_n C dX1_unlikeCoats_27 rfl ?_
        obtain ⟨v28, h28, h⟩ := e_bd h
        refine z_callVi (As := [.int x3]) C (c_X1_sameAs l g h28) rfl O_2 rfl (gcV hsT tw_2_16 cw_X1_sameAs) rfl rfl rfl hy_X1_sameAs rfl ⟨Nat.le_of_ble_eq_true rfl, Nat.le_of_ble_eq_true rfl⟩ (Nat.le_of_ble_eq_true rfl) dX1_unlikeCoats_28 ?_
        refine z_ior C dX1_unlikeCoats_31 ?_
        refine z_istore_n [(1, .int (x1 ||| v28)), (2, .int (x2 + (1 : Int32))), (0, .ref (ga g 2)), (3, .int x3)] C dX1_unlikeCoats_32 (by decide) rfl ?_
        obtain rfl := Option.some.inj h
        exact z_sub [2, 0, 1, 3] rfl hj19
set_option maxRecDepth 100000 in
set_option maxHeartbeats 4000000 in
theorem c_X1_unlikeCoats (l : Launch) (g : Gx) {M : MM}  {r : Int32} (h : f_X1_unlikeCoats M  = some r) : zMi l yX1_unlikeCoats wX1_unlikeCoats (rmm 4 89) [.ref (ga g 2)] g M r M := by
  refine zMi_of .int (by decide) rfl (Nat.le_of_ble_eq_true rfl) rfl rfl ?_
  intro x C E
  show zJ g x M 0 [(0, .ref (ga g 2))] []
  unfold f_X1_unlikeCoats at h
  refine z_iconst (0 : Int32) C dX1_unlikeCoats_0 (by decide) ?_
  refine z_istore_n [(1, .int (0 : Int32)), (0, .ref (ga g 2))] C dX1_unlikeCoats_1 (by decide) rfl ?_
  refine z_iconst (0 : Int32) C dX1_unlikeCoats_2 (by decide) ?_
  refine z_istore_n [(2, .int (0 : Int32)), (1, .int (0 : Int32)), (0, .ref (ga g 2))] C dX1_unlikeCoats_3 (by decide) rfl ?_
  refine z_iconst (0 : Int32) C dX1_unlikeCoats_4 (by decide) ?_
  refine z_istore_n [(3, .int (0 : Int32)), (2, .int (0 : Int32)), (1, .int (0 : Int32)), (0, .ref (ga g 2))] C dX1_unlikeCoats_5 (by decide) rfl ?_
  obtain ⟨w6, h6, h⟩ := e_bd h
  refine z_sub [3, 2, 1, 0] rfl ?_
  refine lp_X1_unlikeCoats_6 C _ _ _ _ _ h6 ?_
  refine z_iload_n C dX1_unlikeCoats_39 rfl ?_
  obtain rfl := Option.some.inj h
  exact z_iret C E dX1_unlikeCoats_40
