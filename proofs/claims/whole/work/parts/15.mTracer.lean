theorem hy_X8_fits : yX8_fits.cls ≠ "java/lang/invoke/MethodHandle" ∧ yX8_fits.cls ≠ "java/lang/invoke/VarHandle" ∧ (parseMethodDescriptor yX8_fits.desc).map (fun d => d.parameters.length) = some 2 := by decide +kernel
def wX8_fits : List Cond := Cond.code yX8_fits cX8_fits 2 (some .boolean) :: TB
def f_X8_fits (M : MM) (x0 : Int32) (x1 : Int32) : Option Int32 :=
  (if x0 = (10 : Int32) then
    some (1 : Int32)
  else
    if x0 = x1 then
      some (1 : Int32)
    else
      some (0 : Int32)
  ).bind fun (j3 : Int32) =>
    z_rzp j3
set_option maxRecDepth 100000 in
set_option maxHeartbeats 4000000 in
theorem c_X8_fits (l : Launch) (g : Gx) {M : MM} {x0 : Int32} {x1 : Int32} {r : Int32} (h : f_X8_fits M x0 x1 = some r) : zMi l yX8_fits wX8_fits (rmm 0 0) [.int x0, .int x1] g M r M := by
  refine zMi_of .boolean (by decide) rfl (Nat.le_of_ble_eq_true rfl) rfl rfl ?_
  intro x C E
  show zJ g x M 0 [(0, .int x0), (1, .int x1)] []
  unfold f_X8_fits at h
  refine z_iload_n C dX8_fits_0 rfl ?_
  refine z_bipush (10 : Int32) C dX8_fits_1 (by decide) ?_
  obtain ⟨j3, h3, h⟩ := e_bd h
  have hj3 : zJ g x M 16 [] [.int j3] := by
    obtain ⟨hz, rfl⟩ := e_rzp h
    exact z_zret C E hz dX8_fits_16
  have h := h3
  refine z_icmp_eq 11 C dX8_fits_3 (by decide) (fun hc => ?_) (fun hc => ?_)
  · have h := e_t hc h
    refine z_iconst (1 : Int32) C dX8_fits_11 (by decide) ?_
    refine z_goto 16 C dX8_fits_12 (by decide) ?_
    obtain rfl := Option.some.inj h
    exact z_sub [] rfl hj3
  · have h := e_f hc h
    refine z_iload_n C dX8_fits_6 rfl ?_
    refine z_iload_n C dX8_fits_7 rfl ?_
    refine z_icmp_ne 15 C dX8_fits_8 (by decide) (fun hc => ?_) (fun hc => ?_)
    · have h := e_f hc h
      refine z_iconst (0 : Int32) C dX8_fits_15 (by decide) ?_
      obtain rfl := Option.some.inj h
      exact z_sub [] rfl hj3
    · have h := e_t hc h
      refine z_iconst (1 : Int32) C dX8_fits_11 (by decide) ?_
      refine z_goto 16 C dX8_fits_12 (by decide) ?_
      obtain rfl := Option.some.inj h
      exact z_sub [] rfl hj3
theorem hy_X8_fitsEach : yX8_fitsEach.cls ≠ "java/lang/invoke/MethodHandle" ∧ yX8_fitsEach.cls ≠ "java/lang/invoke/VarHandle" ∧ (parseMethodDescriptor yX8_fitsEach.desc).map (fun d => d.parameters.length) = some 3 := by decide +kernel
def wX8_fitsEach : List Cond := Cond.code yX8_fitsEach cX8_fitsEach 4 (some .boolean) :: TB
def f_X8_fitsEach_L2 : Nat → MM → Int32 → Int32 → Option (Int32)
  | 0, _, _, _ => none
  | n + 1, M, x2, x3 =>
    (f_X7_signs M ).bind fun (v4 : Int32) =>
    if v4 ≤ x3 then
      z_rzp (1 : Int32)
    else
      (f_X7_signNumber M x3).bind fun (v12 : Int32) =>
      (f_X1_armsAt M x2 x3).bind fun (v18 : Int32) =>
      (f_X8_fits M v12 v18).bind fun (v21 : Int32) =>
      if v21 = 0 then
        z_rzp (0 : Int32)
      else
        f_X8_fitsEach_L2 n M x2 (x3 + (1 : Int32))
def f_X8_fitsEach (M : MM) (x2 : Int32) : Option Int32 :=
  f_X8_fitsEach_L2 FU M x2 (0 : Int32)
set_option maxRecDepth 100000 in
set_option maxHeartbeats 4000000 in
theorem lp_X8_fitsEach_2 {l : Launch} {g : Gx} {x : Cx} (C : zC g x l RX8 cX8_fitsEach wX8_fitsEach (rmm 2 43) 4) {r : Int32} : ∀ (n : Nat) (M : MM) (x2 x3 : Int32) , f_X8_fitsEach_L2 n M x2 x3 = some r → zRi g x .boolean r M → zJ g x M 2 [(0, .ref (ga g 1)), (1, .ref (ga g 2)), (2, .int x2), (3, .int x3)] [] := by
  intro n
  induction n with
  | zero =>
    intro M x2 x3 h E
    exact absurd h (by simp [f_X8_fitsEach_L2])
  | succ n ih =>
    intro M x2 x3 h E
    rw [f_X8_fitsEach_L2] at h
    refine z_iload_n C dX8_fitsEach_2 rfl ?_
    refine z_aload_n C dX8_fitsEach_3 rfl ?_
    obtain ⟨v4, h4, h⟩ := e_bd h
    refine z_callVi (As := []) C (c_X7_signs l g h4) rfl O_1 rfl (gcV hsT tw_2_41 cw_X7_signs) rfl rfl rfl hy_X7_signs rfl ⟨Nat.le_of_ble_eq_true rfl, Nat.le_of_ble_eq_true rfl⟩ (Nat.le_of_ble_eq_true rfl) dX8_fitsEach_4 ?_
    refine z_icmp_ge 35 C dX8_fitsEach_7 (by decide) (fun hc => ?_) (fun hc => ?_)
    · have h := e_t hc h
      refine z_iconst (1 : Int32) C dX8_fitsEach_35 (by decide) ?_
      obtain ⟨hz, rfl⟩ := e_rzp h
      exact z_zret C E hz dX8_fitsEach_36
    · have h := e_f hc h
      refine z_aload_n C dX8_fitsEach_10 rfl ?_
      refine z_iload_n C dX8_fitsEach_11 rfl ?_
      obtain ⟨v12, h12, h⟩ := e_bd h
      refine z_callVi (As := [.int x3]) C (c_X7_signNumber l g h12) rfl O_1 rfl (gcV hsT tw_2_46 cw_X7_signNumber) rfl rfl rfl hy_X7_signNumber rfl ⟨Nat.le_of_ble_eq_true rfl, Nat.le_of_ble_eq_true rfl⟩ (Nat.le_of_ble_eq_true rfl) dX8_fitsEach_12 ?_
      refine z_aload_n C dX8_fitsEach_15 rfl ?_
      refine z_iload_n C dX8_fitsEach_16 rfl ?_
      refine z_iload_n C dX8_fitsEach_17 rfl ?_
      obtain ⟨v18, h18, h⟩ := e_bd h
      refine z_callVi (As := [.int x2, .int x3]) C (c_X1_armsAt l g h18) rfl O_2 rfl (gcV hsT tw_2_51 cw_X1_armsAt) rfl rfl rfl hy_X1_armsAt rfl ⟨Nat.le_of_ble_eq_true rfl, Nat.le_of_ble_eq_true rfl⟩ (Nat.le_of_ble_eq_true rfl) dX8_fitsEach_18 ?_
      obtain ⟨v21, h21, h⟩ := e_bd h
      refine z_callSi (As := [.int v12, .int v18]) C (c_X8_fits l g h21) rfl (gcS hsT tw_2_52 cw_X8_fits) rfl rfl rfl hy_X8_fits rfl ⟨Nat.le_of_ble_eq_true rfl, Nat.le_of_ble_eq_true rfl⟩ (Nat.le_of_ble_eq_true rfl) dX8_fitsEach_21 ?_
      refine z_if_ne 29 C dX8_fitsEach_24 (by decide) (fun hc => ?_) (fun hc => ?_)
      · have h := e_f hc h
        refine z_iinc (v := (x3 + (1 : Int32))) [(3, .int (x3 + (1 : Int32))), (0, .ref (ga g 1)), (1, .ref (ga g 2)), (2, .int x2)] C dX8_fitsEach_29 rfl rfl (by decide) rfl ?_
        refine z_goto 2 C dX8_fitsEach_32 (by decide) ?_
        refine z_sub [1, 2, 3, 0] rfl ?_
        exact ih _ _ _ h E
      · have h := e_t hc h
        refine z_iconst (0 : Int32) C dX8_fitsEach_27 (by decide) ?_
        obtain ⟨hz, rfl⟩ := e_rzp h
        exact z_zret C E hz dX8_fitsEach_28
set_option maxRecDepth 100000 in
set_option maxHeartbeats 4000000 in
theorem c_X8_fitsEach (l : Launch) (g : Gx) {M : MM} {x2 : Int32} {r : Int32} (h : f_X8_fitsEach M x2 = some r) : zMi l yX8_fitsEach wX8_fitsEach (rmm 2 43) [.ref (ga g 1), .ref (ga g 2), .int x2] g M r M := by
  refine zMi_of .boolean (by decide) rfl (Nat.le_of_ble_eq_true rfl) rfl rfl ?_
  intro x C E
  show zJ g x M 0 [(0, .ref (ga g 1)), (1, .ref (ga g 2)), (2, .int x2)] []
  unfold f_X8_fitsEach at h
  refine z_iconst (0 : Int32) C dX8_fitsEach_0 (by decide) ?_
  refine z_istore_n [(3, .int (0 : Int32)), (0, .ref (ga g 1)), (1, .ref (ga g 2)), (2, .int x2)] C dX8_fitsEach_1 (by decide) rfl ?_
  refine z_sub [1, 2, 3, 0] rfl ?_
  exact lp_X8_fitsEach_2 C _ _ _ _ h E
theorem hy_X8_meantByAll : yX8_meantByAll.cls = RX8 ∧ yX8_meantByAll.cls ≠ "java/lang/invoke/MethodHandle" ∧ yX8_meantByAll.cls ≠ "java/lang/invoke/VarHandle" ∧ (parseMethodDescriptor yX8_meantByAll.desc).map (fun d => d.parameters.length) = some 2 := by decide +kernel
def wX8_meantByAll : List Cond := Cond.code yX8_meantByAll cX8_meantByAll 5 (some .int) :: TB
def f_X8_meantByAll_L5 : Nat → MM → Int32 → Int32 → Option (Int32)
  | 0, _, _, _ => none
  | n + 1, M, x3, x4 =>
    (f_X7_people M ).bind fun (v8 : Int32) =>
    if v8 ≤ x4 then
      some x3
    else
      (f_X7_signs M ).bind fun (v15 : Int32) =>
      (if v15 ≤ 0 then
        some x3
      else
        (f_X1_sizeOf M x4).bind fun (v24 : Int32) =>
        (f_X7_signs M ).bind fun (v28 : Int32) =>
        if v24 = v28 then
          (f_X8_fitsEach M x4).bind fun (v38 : Int32) =>
          if v38 = 0 then
            some x3
          else
            some (x3 ||| ((1 : Int32) <<< (x4 &&& 31)))
        else
          some x3
      ).bind fun (j18 : Int32) =>
        f_X8_meantByAll_L5 n M j18 (x4 + (1 : Int32))
def f_X8_meantByAll (M : MM)  : Option Int32 :=
  (f_X8_meantByAll_L5 FU M (0 : Int32) (0 : Int32)).bind fun (w5 : Int32) =>
  some w5
set_option maxRecDepth 100000 in
set_option maxHeartbeats 4000000 in
theorem lp_X8_meantByAll_5 {l : Launch} {g : Gx} {x : Cx} (C : zC g x l RX8 cX8_meantByAll wX8_meantByAll (rmm 3 66) 5) {r : Int32} : ∀ (n : Nat) (M : MM) (x3 x4 : Int32) , f_X8_meantByAll_L5 n M x3 x4 = some r → zJ g x M 57 [(3, .int r)] [] → zJ g x M 5 [(1, .ref (ga g 1)), (2, .ref (ga g 2)), (3, .int x3), (4, .int x4)] [] := by
  intro n
  induction n with
  | zero =>
    intro M x3 x4 h hj
    exact absurd h (by simp [f_X8_meantByAll_L5])
  | succ n ih =>
    intro M x3 x4 h hj
    rw [f_X8_meantByAll_L5] at h
    refine z_iload C dX8_meantByAll_5 rfl ?_
    refine z_aload_n C dX8_meantByAll_7 rfl ?_
    obtain ⟨v8, h8, h⟩ := e_bd h
    refine z_callVi (As := []) C (c_X7_people l g h8) rfl O_1 rfl (gcV hsT tw_2_40 cw_X7_people) rfl rfl rfl hy_X7_people rfl ⟨Nat.le_of_ble_eq_true rfl, Nat.le_of_ble_eq_true rfl⟩ (Nat.le_of_ble_eq_true rfl) dX8_meantByAll_8 ?_
    refine z_icmp_ge 57 C dX8_meantByAll_11 (by decide) (fun hc => ?_) (fun hc => ?_)
    · have h := e_t hc h
      obtain rfl := Option.some.inj h
      exact z_sub [2] rfl hj
    · have h := e_f hc h
      refine z_aload_n C dX8_meantByAll_14 rfl ?_
      obtain ⟨v15, h15, h⟩ := e_bd h
      refine z_callVi (As := []) C (c_X7_signs l g h15) rfl O_1 rfl (gcV hsT tw_2_41 cw_X7_signs) rfl rfl rfl hy_X7_signs rfl ⟨Nat.le_of_ble_eq_true rfl, Nat.le_of_ble_eq_true rfl⟩ (Nat.le_of_ble_eq_true rfl) dX8_meantByAll_15 ?_
      obtain ⟨j18, h18, h⟩ := e_bd h
      have hj18 : zJ g x M 51 [(1, .ref (ga g 1)), (2, .ref (ga g 2)), (3, .int j18), (4, .int x4)] [] := by
        refine z_iinc (v := (x4 + (1 : Int32))) [(4, .int (x4 + (1 : Int32))), (1, .ref (ga g 1)), (2, .ref (ga g 2)), (3, .int j18)] C dX8_meantByAll_51 rfl rfl (by decide) rfl ?_
        refine z_goto 5 C dX8_meantByAll_54 (by decide) ?_
        refine z_sub [1, 2, 3, 0] rfl ?_
        exact ih _ _ _ h hj
      have h := h18
      refine z_if_le 51 C dX8_meantByAll_18 (by decide) (fun hc => ?_) (fun hc => ?_)
      · have h := e_t hc h
        obtain rfl := Option.some.inj h
        exact z_sub [0, 1, 2, 3] rfl hj18
      · have h := e_f hc h
        refine z_aload_n C dX8_meantByAll_21 rfl ?_
        refine z_iload C dX8_meantByAll_22 rfl ?_
        obtain ⟨v24, h24, h⟩ := e_bd h
        refine z_callVi (As := [.int x4]) C (c_X1_sizeOf l g h24) rfl O_2 rfl (gcV hsT tw_2_42 cw_X1_sizeOf) rfl rfl rfl hy_X1_sizeOf rfl ⟨Nat.le_of_ble_eq_true rfl, Nat.le_of_ble_eq_true rfl⟩ (Nat.le_of_ble_eq_true rfl) dX8_meantByAll_24 ?_
        refine z_aload_n C dX8_meantByAll_27 rfl ?_
        obtain ⟨v28, h28, h⟩ := e_bd h
        refine z_callVi (As := []) C (c_X7_signs l g h28) rfl O_1 rfl (gcV hsT tw_2_41 cw_X7_signs) rfl rfl rfl hy_X7_signs rfl ⟨Nat.le_of_ble_eq_true rfl, Nat.le_of_ble_eq_true rfl⟩ (Nat.le_of_ble_eq_true rfl) dX8_meantByAll_28 ?_
        refine z_icmp_ne 51 C dX8_meantByAll_31 (by decide) (fun hc => ?_) (fun hc => ?_)
        · have h := e_f hc h
          obtain rfl := Option.some.inj h
          exact z_sub [0, 1, 2, 3] rfl hj18
        · have h := e_t hc h
          refine z_aload_n C dX8_meantByAll_34 rfl ?_
          refine z_aload_n C dX8_meantByAll_35 rfl ?_
          refine z_iload C dX8_meantByAll_36 rfl ?_
          obtain ⟨v38, h38, h⟩ := e_bd h
          refine z_callSi (As := [.ref (ga g 1), .ref (ga g 2), .int x4]) C (c_X8_fitsEach l g h38) rfl (gcS hsT tw_2_43 cw_X8_fitsEach) rfl rfl rfl hy_X8_fitsEach rfl ⟨Nat.le_of_ble_eq_true rfl, Nat.le_of_ble_eq_true rfl⟩ (Nat.le_of_ble_eq_true rfl) dX8_meantByAll_38 ?_
          refine z_if_eq 51 C dX8_meantByAll_41 (by decide) (fun hc => ?_) (fun hc => ?_)
          · have h := e_t hc h
            obtain rfl := Option.some.inj h
            exact z_sub [0, 1, 2, 3] rfl hj18
          · have h := e_f hc h
            refine z_iload_n C dX8_meantByAll_44 rfl ?_
            refine z_iconst (1 : Int32) C dX8_meantByAll_45 (by decide) ?_
            refine z_iload C dX8_meantByAll_46 rfl ?_
            refine z_ishl C dX8_meantByAll_48 ?_
            refine z_ior C dX8_meantByAll_49 ?_
            refine z_istore_n [(3, .int (x3 ||| ((1 : Int32) <<< (x4 &&& 31)))), (1, .ref (ga g 1)), (2, .ref (ga g 2)), (4, .int x4)] C dX8_meantByAll_50 (by decide) rfl ?_
            obtain rfl := Option.some.inj h
            exact z_sub [1, 2, 0, 3] rfl hj18
set_option maxRecDepth 100000 in
set_option maxHeartbeats 4000000 in
theorem c_X8_meantByAll (l : Launch) (g : Gx) {M : MM}  {r : Int32} (h : f_X8_meantByAll M  = some r) : zMi l yX8_meantByAll wX8_meantByAll (rmm 3 66) [.ref (ga g 4), .ref (ga g 1), .ref (ga g 2)] g M r M := by
  refine zMi_of .int (by decide) rfl (Nat.le_of_ble_eq_true rfl) rfl rfl ?_
  intro x C E
  show zJ g x M 0 [(0, .ref (ga g 4)), (1, .ref (ga g 1)), (2, .ref (ga g 2))] []
  unfold f_X8_meantByAll at h
  refine z_iconst (0 : Int32) C dX8_meantByAll_0 (by decide) ?_
  refine z_istore_n [(3, .int (0 : Int32)), (0, .ref (ga g 4)), (1, .ref (ga g 1)), (2, .ref (ga g 2))] C dX8_meantByAll_1 (by decide) rfl ?_
  refine z_iconst (0 : Int32) C dX8_meantByAll_2 (by decide) ?_
  refine z_istore [(4, .int (0 : Int32)), (3, .int (0 : Int32)), (0, .ref (ga g 4)), (1, .ref (ga g 1)), (2, .ref (ga g 2))] C dX8_meantByAll_3 (by decide) rfl ?_
  obtain ⟨w5, h5, h⟩ := e_bd h
  refine z_sub [3, 4, 1, 0] rfl ?_
  refine lp_X8_meantByAll_5 C _ _ _ _ h5 ?_
  refine z_iload_n C dX8_meantByAll_57 rfl ?_
  obtain rfl := Option.some.inj h
  exact z_iret C E dX8_meantByAll_58
theorem hy_X8_holdsRest : yX8_holdsRest.cls ≠ "java/lang/invoke/MethodHandle" ∧ yX8_holdsRest.cls ≠ "java/lang/invoke/VarHandle" ∧ (parseMethodDescriptor yX8_holdsRest.desc).map (fun d => d.parameters.length) = some 3 := by decide +kernel
def wX8_holdsRest : List Cond := Cond.code yX8_holdsRest cX8_holdsRest 5 (some .boolean) :: TB
def f_X8_holdsRest_L5 : Nat → MM → Int32 → Int32 → Int32 → Option (Int32)
  | 0, _, _, _, _ => none
  | n + 1, M, x2, x3, x4 =>
    (f_X1_sizeOf M x2).bind fun (v9 : Int32) =>
    if v9 ≤ x4 then
      some x3
    else
      (f_X7_signs M ).bind fun (v17 : Int32) =>
      if v17 ≤ x3 then
        some x3
      else
        (f_X7_signNumber M x3).bind fun (v25 : Int32) =>
        (f_X1_armsAt M x2 x4).bind fun (v32 : Int32) =>
        (f_X8_fits M v25 v32).bind fun (v35 : Int32) =>
        (if v35 = 0 then
          some x3
        else
          some (x3 + (1 : Int32))
        ).bind fun (j38 : Int32) =>
          f_X8_holdsRest_L5 n M x2 j38 (x4 + (1 : Int32))
def f_X8_holdsRest (M : MM) (x2 : Int32) : Option Int32 :=
  (f_X8_holdsRest_L5 FU M x2 (1 : Int32) (1 : Int32)).bind fun (w5 : Int32) =>
  (f_X7_signs M ).bind fun (v52 : Int32) =>
  (if w5 < v52 then
    some (0 : Int32)
  else
    some (1 : Int32)
  ).bind fun (j55 : Int32) =>
    z_rzp j55
set_option maxRecDepth 100000 in
set_option maxHeartbeats 4000000 in
theorem lp_X8_holdsRest_5 {l : Launch} {g : Gx} {x : Cx} (C : zC g x l RX8 cX8_holdsRest wX8_holdsRest (rmm 2 43) 5) {r : Int32} : ∀ (n : Nat) (M : MM) (x2 x3 x4 : Int32) , f_X8_holdsRest_L5 n M x2 x3 x4 = some r → zJ g x M 50 [(0, .ref (ga g 1)), (3, .int r)] [] → zJ g x M 5 [(0, .ref (ga g 1)), (1, .ref (ga g 2)), (2, .int x2), (3, .int x3), (4, .int x4)] [] := by
  intro n
  induction n with
  | zero =>
    intro M x2 x3 x4 h hj
    exact absurd h (by simp [f_X8_holdsRest_L5])
  | succ n ih =>
    intro M x2 x3 x4 h hj
    rw [f_X8_holdsRest_L5] at h
    refine z_iload C dX8_holdsRest_5 rfl ?_
    refine z_aload_n C dX8_holdsRest_7 rfl ?_
    refine z_iload_n C dX8_holdsRest_8 rfl ?_
    obtain ⟨v9, h9, h⟩ := e_bd h
    refine z_callVi (As := [.int x2]) C (c_X1_sizeOf l g h9) rfl O_2 rfl (gcV hsT tw_2_42 cw_X1_sizeOf) rfl rfl rfl hy_X1_sizeOf rfl ⟨Nat.le_of_ble_eq_true rfl, Nat.le_of_ble_eq_true rfl⟩ (Nat.le_of_ble_eq_true rfl) dX8_holdsRest_9 ?_
    refine z_icmp_ge 50 C dX8_holdsRest_12 (by decide) (fun hc => ?_) (fun hc => ?_)
    · have h := e_t hc h
      obtain rfl := Option.some.inj h
      exact z_sub [0, 3] rfl hj
    · have h := e_f hc h
      refine z_iload_n C dX8_holdsRest_15 rfl ?_
      refine z_aload_n C dX8_holdsRest_16 rfl ?_
      obtain ⟨v17, h17, h⟩ := e_bd h
      refine z_callVi (As := []) C (c_X7_signs l g h17) rfl O_1 rfl (gcV hsT tw_2_41 cw_X7_signs) rfl rfl rfl hy_X7_signs rfl ⟨Nat.le_of_ble_eq_true rfl, Nat.le_of_ble_eq_true rfl⟩ (Nat.le_of_ble_eq_true rfl) dX8_holdsRest_17 ?_
      refine z_icmp_ge 50 C dX8_holdsRest_20 (by decide) (fun hc => ?_) (fun hc => ?_)
      · have h := e_t hc h
        obtain rfl := Option.some.inj h
        exact z_sub [0, 3] rfl hj
      · have h := e_f hc h
        refine z_aload_n C dX8_holdsRest_23 rfl ?_
        refine z_iload_n C dX8_holdsRest_24 rfl ?_
        obtain ⟨v25, h25, h⟩ := e_bd h
        refine z_callVi (As := [.int x3]) C (c_X7_signNumber l g h25) rfl O_1 rfl (gcV hsT tw_2_46 cw_X7_signNumber) rfl rfl rfl hy_X7_signNumber rfl ⟨Nat.le_of_ble_eq_true rfl, Nat.le_of_ble_eq_true rfl⟩ (Nat.le_of_ble_eq_true rfl) dX8_holdsRest_25 ?_
        refine z_aload_n C dX8_holdsRest_28 rfl ?_
        refine z_iload_n C dX8_holdsRest_29 rfl ?_
        refine z_iload C dX8_holdsRest_30 rfl ?_
        obtain ⟨v32, h32, h⟩ := e_bd h
        refine z_callVi (As := [.int x2, .int x4]) C (c_X1_armsAt l g h32) rfl O_2 rfl (gcV hsT tw_2_51 cw_X1_armsAt) rfl rfl rfl hy_X1_armsAt rfl ⟨Nat.le_of_ble_eq_true rfl, Nat.le_of_ble_eq_true rfl⟩ (Nat.le_of_ble_eq_true rfl) dX8_holdsRest_32 ?_
        obtain ⟨v35, h35, h⟩ := e_bd h
        refine z_callSi (As := [.int v25, .int v32]) C (c_X8_fits l g h35) rfl (gcS hsT tw_2_52 cw_X8_fits) rfl rfl rfl hy_X8_fits rfl ⟨Nat.le_of_ble_eq_true rfl, Nat.le_of_ble_eq_true rfl⟩ (Nat.le_of_ble_eq_true rfl) dX8_holdsRest_35 ?_
        obtain ⟨j38, h38, h⟩ := e_bd h
        have hj38 : zJ g x M 44 [(0, .ref (ga g 1)), (1, .ref (ga g 2)), (2, .int x2), (3, .int j38), (4, .int x4)] [] := by
          refine z_iinc (v := (x4 + (1 : Int32))) [(4, .int (x4 + (1 : Int32))), (0, .ref (ga g 1)), (1, .ref (ga g 2)), (2, .int x2), (3, .int j38)] C dX8_holdsRest_44 rfl rfl (by decide) rfl ?_
          refine z_goto 5 C dX8_holdsRest_47 (by decide) ?_
          refine z_sub [1, 2, 3, 4, 0] rfl ?_
          exact ih _ _ _ _ h hj
        have h := h38
        refine z_if_eq 44 C dX8_holdsRest_38 (by decide) (fun hc => ?_) (fun hc => ?_)
        · have h := e_t hc h
          obtain rfl := Option.some.inj h
          exact z_sub [0, 1, 2, 3, 4] rfl hj38
        · have h := e_f hc h
          refine z_iinc (v := (x3 + (1 : Int32))) [(3, .int (x3 + (1 : Int32))), (0, .ref (ga g 1)), (1, .ref (ga g 2)), (2, .int x2), (4, .int x4)] C dX8_holdsRest_41 rfl rfl (by decide) rfl ?_
          obtain rfl := Option.some.inj h
          exact z_sub [1, 2, 3, 0, 4] rfl hj38
set_option maxRecDepth 100000 in
set_option maxHeartbeats 4000000 in
theorem c_X8_holdsRest (l : Launch) (g : Gx) {M : MM} {x2 : Int32} {r : Int32} (h : f_X8_holdsRest M x2 = some r) : zMi l yX8_holdsRest wX8_holdsRest (rmm 2 43) [.ref (ga g 1), .ref (ga g 2), .int x2] g M r M := by
  refine zMi_of .boolean (by decide) rfl (Nat.le_of_ble_eq_true rfl) rfl rfl ?_
  intro x C E
  show zJ g x M 0 [(0, .ref (ga g 1)), (1, .ref (ga g 2)), (2, .int x2)] []
  unfold f_X8_holdsRest at h
  refine z_iconst (1 : Int32) C dX8_holdsRest_0 (by decide) ?_
  refine z_istore_n [(3, .int (1 : Int32)), (0, .ref (ga g 1)), (1, .ref (ga g 2)), (2, .int x2)] C dX8_holdsRest_1 (by decide) rfl ?_
  refine z_iconst (1 : Int32) C dX8_holdsRest_2 (by decide) ?_
  refine z_istore [(4, .int (1 : Int32)), (3, .int (1 : Int32)), (0, .ref (ga g 1)), (1, .ref (ga g 2)), (2, .int x2)] C dX8_holdsRest_3 (by decide) rfl ?_
  obtain ⟨w5, h5, h⟩ := e_bd h
  refine z_sub [2, 3, 4, 1, 0] rfl ?_
  refine lp_X8_holdsRest_5 C _ _ _ _ _ h5 ?_
  refine z_iload_n C dX8_holdsRest_50 rfl ?_
  refine z_aload_n C dX8_holdsRest_51 rfl ?_
  obtain ⟨v52, h52, h⟩ := e_bd h
  refine z_callVi (As := []) C (c_X7_signs l g h52) rfl O_1 rfl (gcV hsT tw_2_41 cw_X7_signs) rfl rfl rfl hy_X7_signs rfl ⟨Nat.le_of_ble_eq_true rfl, Nat.le_of_ble_eq_true rfl⟩ (Nat.le_of_ble_eq_true rfl) dX8_holdsRest_52 ?_
  obtain ⟨j55, h55, h⟩ := e_bd h
  have hj55 : zJ g x M 63 [] [.int j55] := by
    obtain ⟨hz, rfl⟩ := e_rzp h
    exact z_zret C E hz dX8_holdsRest_63
  have h := h55
  refine z_icmp_lt 62 C dX8_holdsRest_55 (by decide) (fun hc => ?_) (fun hc => ?_)
  · have h := e_t hc h
    refine z_iconst (0 : Int32) C dX8_holdsRest_62 (by decide) ?_
    obtain rfl := Option.some.inj h
    exact z_sub [] rfl hj55
  · have h := e_f hc h
    refine z_iconst (1 : Int32) C dX8_holdsRest_58 (by decide) ?_
    refine z_goto 63 C dX8_holdsRest_59 (by decide) ?_
    obtain rfl := Option.some.inj h
    exact z_sub [] rfl hj55
theorem hy_X8_meantBySome : yX8_meantBySome.cls = RX8 ∧ yX8_meantBySome.cls ≠ "java/lang/invoke/MethodHandle" ∧ yX8_meantBySome.cls ≠ "java/lang/invoke/VarHandle" ∧ (parseMethodDescriptor yX8_meantBySome.desc).map (fun d => d.parameters.length) = some 2 := by decide +kernel
def wX8_meantBySome : List Cond := Cond.code yX8_meantBySome cX8_meantBySome 5 (some .int) :: TB
def f_X8_meantBySome_L5 : Nat → MM → Int32 → Int32 → Option (Int32)
  | 0, _, _, _ => none
  | n + 1, M, x3, x4 =>
    (f_X7_people M ).bind fun (v8 : Int32) =>
    if v8 ≤ x4 then
      some x3
    else
      (f_X7_signs M ).bind fun (v15 : Int32) =>
      (if v15 ≤ 0 then
        some x3
      else
        (f_X7_signNumber M (0 : Int32)).bind fun (v23 : Int32) =>
        (f_X1_armsAt M x4 (0 : Int32)).bind fun (v30 : Int32) =>
        (f_X8_fits M v23 v30).bind fun (v33 : Int32) =>
        if v33 = 0 then
          some x3
        else
          (f_X8_holdsRest M x4).bind fun (v43 : Int32) =>
          if v43 = 0 then
            some x3
          else
            some (x3 ||| ((1 : Int32) <<< (x4 &&& 31)))
      ).bind fun (j18 : Int32) =>
        f_X8_meantBySome_L5 n M j18 (x4 + (1 : Int32))
def f_X8_meantBySome (M : MM)  : Option Int32 :=
  (f_X8_meantBySome_L5 FU M (0 : Int32) (0 : Int32)).bind fun (w5 : Int32) =>
  some w5
set_option maxRecDepth 100000 in
set_option maxHeartbeats 4000000 in
theorem lp_X8_meantBySome_5 {l : Launch} {g : Gx} {x : Cx} (C : zC g x l RX8 cX8_meantBySome wX8_meantBySome (rmm 3 67) 5) {r : Int32} : ∀ (n : Nat) (M : MM) (x3 x4 : Int32) , f_X8_meantBySome_L5 n M x3 x4 = some r → zJ g x M 62 [(3, .int r)] [] → zJ g x M 5 [(1, .ref (ga g 1)), (2, .ref (ga g 2)), (3, .int x3), (4, .int x4)] [] := by
  intro n
  induction n with
  | zero =>
    intro M x3 x4 h hj
    exact absurd h (by simp [f_X8_meantBySome_L5])
  | succ n ih =>
    intro M x3 x4 h hj
    rw [f_X8_meantBySome_L5] at h
    refine z_iload C dX8_meantBySome_5 rfl ?_
    refine z_aload_n C dX8_meantBySome_7 rfl ?_
    obtain ⟨v8, h8, h⟩ := e_bd h
    refine z_callVi (As := []) C (c_X7_people l g h8) rfl O_1 rfl (gcV hsT tw_2_40 cw_X7_people) rfl rfl rfl hy_X7_people rfl ⟨Nat.le_of_ble_eq_true rfl, Nat.le_of_ble_eq_true rfl⟩ (Nat.le_of_ble_eq_true rfl) dX8_meantBySome_8 ?_
    refine z_icmp_ge 62 C dX8_meantBySome_11 (by decide) (fun hc => ?_) (fun hc => ?_)
    · have h := e_t hc h
      obtain rfl := Option.some.inj h
      exact z_sub [2] rfl hj
    · have h := e_f hc h
      refine z_aload_n C dX8_meantBySome_14 rfl ?_
      obtain ⟨v15, h15, h⟩ := e_bd h
      refine z_callVi (As := []) C (c_X7_signs l g h15) rfl O_1 rfl (gcV hsT tw_2_41 cw_X7_signs) rfl rfl rfl hy_X7_signs rfl ⟨Nat.le_of_ble_eq_true rfl, Nat.le_of_ble_eq_true rfl⟩ (Nat.le_of_ble_eq_true rfl) dX8_meantBySome_15 ?_
      obtain ⟨j18, h18, h⟩ := e_bd h
      have hj18 : zJ g x M 56 [(1, .ref (ga g 1)), (2, .ref (ga g 2)), (3, .int j18), (4, .int x4)] [] := by
        refine z_iinc (v := (x4 + (1 : Int32))) [(4, .int (x4 + (1 : Int32))), (1, .ref (ga g 1)), (2, .ref (ga g 2)), (3, .int j18)] C dX8_meantBySome_56 rfl rfl (by decide) rfl ?_
        refine z_goto 5 C dX8_meantBySome_59 (by decide) ?_
        refine z_sub [1, 2, 3, 0] rfl ?_
        exact ih _ _ _ h hj
      have h := h18
      refine z_if_le 56 C dX8_meantBySome_18 (by decide) (fun hc => ?_) (fun hc => ?_)
      · have h := e_t hc h
        obtain rfl := Option.some.inj h
        exact z_sub [0, 1, 2, 3] rfl hj18
      · have h := e_f hc h
        refine z_aload_n C dX8_meantBySome_21 rfl ?_
        refine z_iconst (0 : Int32) C dX8_meantBySome_22 (by decide) ?_
        obtain ⟨v23, h23, h⟩ := e_bd h
        refine z_callVi (As := [.int (0 : Int32)]) C (c_X7_signNumber l g h23) rfl O_1 rfl (gcV hsT tw_2_46 cw_X7_signNumber) rfl rfl rfl hy_X7_signNumber rfl ⟨Nat.le_of_ble_eq_true rfl, Nat.le_of_ble_eq_true rfl⟩ (Nat.le_of_ble_eq_true rfl) dX8_meantBySome_23 ?_
        refine z_aload_n C dX8_meantBySome_26 rfl ?_
        refine z_iload C dX8_meantBySome_27 rfl ?_
        refine z_iconst (0 : Int32) C dX8_meantBySome_29 (by decide) ?_
        obtain ⟨v30, h30, h⟩ := e_bd h
        refine z_callVi (As := [.int x4, .int (0 : Int32)]) C (c_X1_armsAt l g h30) rfl O_2 rfl (gcV hsT tw_2_51 cw_X1_armsAt) rfl rfl rfl hy_X1_armsAt rfl ⟨Nat.le_of_ble_eq_true rfl, Nat.le_of_ble_eq_true rfl⟩ (Nat.le_of_ble_eq_true rfl) dX8_meantBySome_30 ?_
        obtain ⟨v33, h33, h⟩ := e_bd h
        refine z_callSi (As := [.int v23, .int v30]) C (c_X8_fits l g h33) rfl (gcS hsT tw_2_52 cw_X8_fits) rfl rfl rfl hy_X8_fits rfl ⟨Nat.le_of_ble_eq_true rfl, Nat.le_of_ble_eq_true rfl⟩ (Nat.le_of_ble_eq_true rfl) dX8_meantBySome_33 ?_
        refine z_if_eq 56 C dX8_meantBySome_36 (by decide) (fun hc => ?_) (fun hc => ?_)
        · have h := e_t hc h
          obtain rfl := Option.some.inj h
          exact z_sub [0, 1, 2, 3] rfl hj18
        · have h := e_f hc h
          refine z_aload_n C dX8_meantBySome_39 rfl ?_
          refine z_aload_n C dX8_meantBySome_40 rfl ?_
          refine z_iload C dX8_meantBySome_41 rfl ?_
          obtain ⟨v43, h43, h⟩ := e_bd h
          refine z_callSi (As := [.ref (ga g 1), .ref (ga g 2), .int x4]) C (c_X8_holdsRest l g h43) rfl (gcS hsT tw_2_59 cw_X8_holdsRest) rfl rfl rfl hy_X8_holdsRest rfl ⟨Nat.le_of_ble_eq_true rfl, Nat.le_of_ble_eq_true rfl⟩ (Nat.le_of_ble_eq_true rfl) dX8_meantBySome_43 ?_
          refine z_if_eq 56 C dX8_meantBySome_46 (by decide) (fun hc => ?_) (fun hc => ?_)
          · have h := e_t hc h
            obtain rfl := Option.some.inj h
            exact z_sub [0, 1, 2, 3] rfl hj18
          · have h := e_f hc h
            refine z_iload_n C dX8_meantBySome_49 rfl ?_
            refine z_iconst (1 : Int32) C dX8_meantBySome_50 (by decide) ?_
            refine z_iload C dX8_meantBySome_51 rfl ?_
            refine z_ishl C dX8_meantBySome_53 ?_
            refine z_ior C dX8_meantBySome_54 ?_
            refine z_istore_n [(3, .int (x3 ||| ((1 : Int32) <<< (x4 &&& 31)))), (1, .ref (ga g 1)), (2, .ref (ga g 2)), (4, .int x4)] C dX8_meantBySome_55 (by decide) rfl ?_
            obtain rfl := Option.some.inj h
            exact z_sub [1, 2, 0, 3] rfl hj18
set_option maxRecDepth 100000 in
set_option maxHeartbeats 4000000 in
theorem c_X8_meantBySome (l : Launch) (g : Gx) {M : MM}  {r : Int32} (h : f_X8_meantBySome M  = some r) : zMi l yX8_meantBySome wX8_meantBySome (rmm 3 67) [.ref (ga g 4), .ref (ga g 1), .ref (ga g 2)] g M r M := by
  refine zMi_of .int (by decide) rfl (Nat.le_of_ble_eq_true rfl) rfl rfl ?_
  intro x C E
  show zJ g x M 0 [(0, .ref (ga g 4)), (1, .ref (ga g 1)), (2, .ref (ga g 2))] []
  unfold f_X8_meantBySome at h
  refine z_iconst (0 : Int32) C dX8_meantBySome_0 (by decide) ?_
  refine z_istore_n [(3, .int (0 : Int32)), (0, .ref (ga g 4)), (1, .ref (ga g 1)), (2, .ref (ga g 2))] C dX8_meantBySome_1 (by decide) rfl ?_
  refine z_iconst (0 : Int32) C dX8_meantBySome_2 (by decide) ?_
  refine z_istore [(4, .int (0 : Int32)), (3, .int (0 : Int32)), (0, .ref (ga g 4)), (1, .ref (ga g 1)), (2, .ref (ga g 2))] C dX8_meantBySome_3 (by decide) rfl ?_
  obtain ⟨w5, h5, h⟩ := e_bd h
  refine z_sub [3, 4, 1, 0] rfl ?_
  refine lp_X8_meantBySome_5 C _ _ _ _ h5 ?_
  refine z_iload_n C dX8_meantBySome_62 rfl ?_
  obtain rfl := Option.some.inj h
  exact z_iret C E dX8_meantBySome_63
theorem hy_X8_countOneMore : yX8_countOneMore.cls = RX8 ∧ yX8_countOneMore.cls ≠ "java/lang/invoke/MethodHandle" ∧ yX8_countOneMore.cls ≠ "java/lang/invoke/VarHandle" ∧ (parseMethodDescriptor yX8_countOneMore.desc).map (fun d => d.parameters.length) = some 4 := by decide +kernel
def wX8_countOneMore : List Cond := Cond.code yX8_countOneMore cX8_countOneMore 8 none :: TB
def f_X8_countOneMore_L6 : Nat → MM → Int32 → Int32 → Int32 → Int32 → Int32 → Option (MM)
  | 0, _, _, _, _, _, _ => none
  | n + 1, M, x1, x3, x4, x5, x6 =>
    if x4 < x6 then
      some M
    else
      if (11 : Int32) ≤ x6 then
        some M
      else
        (z_ld M 19 11 x6).bind fun (v29 : Int32) =>
        (f_X1_armsAt M x3 (x6 - (1 : Int32))).bind fun (v38 : Int32) =>
        (if v38 = x1 then
          (z_sto M 19 11 x6 (x5 + (1 : Int32))).bind fun (M55 : MM) =>
          some M55
        else
          (z_ld M 19 11 x6).bind fun (v71 : Int32) =>
          (z_ld M 19 11 (x6 - (1 : Int32))).bind fun (v80 : Int32) =>
          (z_sto M 19 11 x6 (if v71 < v80 then v80 else v71)).bind fun (M84 : MM) =>
          some M84
        ).bind fun (j42 : MM) =>
          f_X8_countOneMore_L6 n j42 x1 x3 x4 v29 (x6 + (1 : Int32))
def f_X8_countOneMore (M : MM) (x1 : Int32) (x3 : Int32) (x4 : Int32) : Option MM :=
  (f_X8_countOneMore_L6 FU M x1 x3 x4 (0 : Int32) (1 : Int32)).bind fun (w6 : MM) =>
  some w6
set_option maxRecDepth 100000 in
set_option maxHeartbeats 4000000 in
theorem lp_X8_countOneMore_6 {l : Launch} {g : Gx} {x : Cx} (C : zC g x l RX8 cX8_countOneMore wX8_countOneMore (rmm 2 43) 8) {r : MM} : ∀ (n : Nat) (M : MM) (x1 x3 x4 x5 x6 : Int32) , f_X8_countOneMore_L6 n M x1 x3 x4 x5 x6 = some r → zJ g x r 95 [] [] → zJ g x M 6 [(0, .ref (ga g 4)), (1, .int x1), (2, .ref (ga g 2)), (3, .int x3), (4, .int x4), (5, .int x5), (6, .int x6)] [] := by
  intro n
  induction n with
  | zero =>
    intro M x1 x3 x4 x5 x6 h hj
    exact absurd h (by simp [f_X8_countOneMore_L6])
  | succ n ih =>
    intro M x1 x3 x4 x5 x6 h hj
    rw [f_X8_countOneMore_L6] at h
    refine z_iload C dX8_countOneMore_6 rfl ?_
    refine z_iload C dX8_countOneMore_8 rfl ?_
    refine z_icmp_gt 95 C dX8_countOneMore_10 (by decide) (fun hc => ?_) (fun hc => ?_)
    · have h := e_t hc h
      obtain rfl := Option.some.inj h
      exact z_sub [] rfl hj
    · have h := e_f hc h
      refine z_iload C dX8_countOneMore_13 rfl ?_
      refine z_aload_n C dX8_countOneMore_15 rfl ?_
      refine z_get C O_4 0 rfl (fun _ h9 => hsT _ (inX8 _ h9)) (by decide) (hsT _ tw_1_96) dX8_countOneMore_16 rfl ?_
      refine z_alen (11 : Int32) C I_19 (by decide) dX8_countOneMore_19 ?_
      refine z_icmp_ge 95 C dX8_countOneMore_20 (by decide) (fun hc => ?_) (fun hc => ?_)
      · have h := e_t hc h
        obtain rfl := Option.some.inj h
        exact z_sub [] rfl hj
      · have h := e_f hc h
        refine z_aload_n C dX8_countOneMore_23 rfl ?_
        refine z_get C O_4 0 rfl (fun _ h9 => hsT _ (inX8 _ h9)) (by decide) (hsT _ tw_1_96) dX8_countOneMore_24 rfl ?_
        refine z_iload C dX8_countOneMore_27 rfl ?_
        obtain ⟨v29, h29, h⟩ := e_bd h
        refine z_iald C I_19 h29 dX8_countOneMore_29 ?_
        refine z_istore [(7, .int v29), (0, .ref (ga g 4)), (1, .int x1), (2, .ref (ga g 2)), (3, .int x3), (4, .int x4), (5, .int x5), (6, .int x6)] C dX8_countOneMore_30 (by decide) rfl ?_
        refine z_aload_n C dX8_countOneMore_32 rfl ?_
        refine z_iload_n C dX8_countOneMore_33 rfl ?_
        refine z_iload C dX8_countOneMore_34 rfl ?_
        refine z_iconst (1 : Int32) C dX8_countOneMore_36 (by decide) ?_
        refine z_isub C dX8_countOneMore_37 ?_
        obtain ⟨v38, h38, h⟩ := e_bd h
        refine z_callVi (As := [.int x3, .int (x6 - (1 : Int32))]) C (c_X1_armsAt l g h38) rfl O_2 rfl (gcV hsT tw_2_51 cw_X1_armsAt) rfl rfl rfl hy_X1_armsAt rfl ⟨Nat.le_of_ble_eq_true rfl, Nat.le_of_ble_eq_true rfl⟩ (Nat.le_of_ble_eq_true rfl) dX8_countOneMore_38 ?_
        refine z_iload_n C dX8_countOneMore_41 rfl ?_
        obtain ⟨j42, h42, h⟩ := e_bd h
        have hj42 : zJ g x j42 85 [(0, .ref (ga g 4)), (1, .int x1), (2, .ref (ga g 2)), (3, .int x3), (4, .int x4), (6, .int x6), (7, .int v29)] [] := by
          refine z_iload C dX8_countOneMore_85 rfl ?_
          refine z_istore [(5, .int v29), (0, .ref (ga g 4)), (1, .int x1), (2, .ref (ga g 2)), (3, .int x3), (4, .int x4), (6, .int x6), (7, .int v29)] C dX8_countOneMore_87 (by decide) rfl ?_
          refine z_iinc (v := (x6 + (1 : Int32))) [(6, .int (x6 + (1 : Int32))), (5, .int v29), (0, .ref (ga g 4)), (1, .int x1), (2, .ref (ga g 2)), (3, .int x3), (4, .int x4), (7, .int v29)] C dX8_countOneMore_89 rfl rfl (by decide) rfl ?_
          refine z_goto 6 C dX8_countOneMore_92 (by decide) ?_
          refine z_sub [2, 3, 4, 5, 6, 1, 0] rfl ?_
          exact ih _ _ _ _ _ _ h hj
        have h := h42
        refine z_icmp_ne 59 C dX8_countOneMore_42 (by decide) (fun hc => ?_) (fun hc => ?_)
        · have h := e_f hc h
          refine z_aload_n C dX8_countOneMore_59 rfl ?_
          refine z_get C O_4 0 rfl (fun _ h9 => hsT _ (inX8 _ h9)) (by decide) (hsT _ tw_1_96) dX8_countOneMore_60 rfl ?_
          refine z_iload C dX8_countOneMore_63 rfl ?_
          refine z_aload_n C dX8_countOneMore_65 rfl ?_
          refine z_get C O_4 0 rfl (fun _ h9 => hsT _ (inX8 _ h9)) (by decide) (hsT _ tw_1_96) dX8_countOneMore_66 rfl ?_
          refine z_iload C dX8_countOneMore_69 rfl ?_
          obtain ⟨v71, h71, h⟩ := e_bd h
          refine z_iald C I_19 h71 dX8_countOneMore_71 ?_
          refine z_aload_n C dX8_countOneMore_72 rfl ?_
          refine z_get C O_4 0 rfl (fun _ h9 => hsT _ (inX8 _ h9)) (by decide) (hsT _ tw_1_96) dX8_countOneMore_73 rfl ?_
          refine z_iload C dX8_countOneMore_76 rfl ?_
          refine z_iconst (1 : Int32) C dX8_countOneMore_78 (by decide) ?_
          refine z_isub C dX8_countOneMore_79 ?_
          obtain ⟨v80, h80, h⟩ := e_bd h
          refine z_iald C I_19 h80 dX8_countOneMore_80 ?_
          refine z_max C (hsT _ tw_2_77) (hsT _ tw_1_154) (hsT _ tw_1_10) (hsT _ tw_1_155) (by decide) (Nat.le_of_ble_eq_true rfl) dX8_countOneMore_81 ?_
          obtain ⟨M84, h84, h⟩ := e_bd h
          refine z_iast C I_19 h84 dX8_countOneMore_84 ?_
          obtain rfl := Option.some.inj h
          exact z_sub [1, 2, 3, 4, 5, 7, 0] rfl hj42
        · have h := e_t hc h
          refine z_aload_n C dX8_countOneMore_45 rfl ?_
          refine z_get C O_4 0 rfl (fun _ h9 => hsT _ (inX8 _ h9)) (by decide) (hsT _ tw_1_96) dX8_countOneMore_46 rfl ?_
          refine z_iload C dX8_countOneMore_49 rfl ?_
          refine z_iload C dX8_countOneMore_51 rfl ?_
          refine z_iconst (1 : Int32) C dX8_countOneMore_53 (by decide) ?_
          refine z_iadd C dX8_countOneMore_54 ?_
          obtain ⟨M55, h55, h⟩ := e_bd h
          refine z_iast C I_19 h55 dX8_countOneMore_55 ?_
          refine z_goto 85 C dX8_countOneMore_56 (by decide) ?_
          obtain rfl := Option.some.inj h
          exact z_sub [1, 2, 3, 4, 5, 7, 0] rfl hj42
set_option maxRecDepth 100000 in
set_option maxHeartbeats 4000000 in
theorem c_X8_countOneMore (l : Launch) (g : Gx) {M : MM} {x1 : Int32} {x3 : Int32} {x4 : Int32} {r : MM} (h : f_X8_countOneMore M x1 x3 x4 = some r) : zMv l yX8_countOneMore wX8_countOneMore (rmm 2 43) [.ref (ga g 4), .int x1, .ref (ga g 2), .int x3, .int x4] g M r := by
  refine zMv_of (by decide) rfl (Nat.le_of_ble_eq_true rfl) rfl rfl ?_
  intro x C E
  show zJ g x M 0 [(0, .ref (ga g 4)), (1, .int x1), (2, .ref (ga g 2)), (3, .int x3), (4, .int x4)] []
  unfold f_X8_countOneMore at h
  refine z_iconst (0 : Int32) C dX8_countOneMore_0 (by decide) ?_
  refine z_istore [(5, .int (0 : Int32)), (0, .ref (ga g 4)), (1, .int x1), (2, .ref (ga g 2)), (3, .int x3), (4, .int x4)] C dX8_countOneMore_1 (by decide) rfl ?_
  refine z_iconst (1 : Int32) C dX8_countOneMore_3 (by decide) ?_
  refine z_istore [(6, .int (1 : Int32)), (5, .int (0 : Int32)), (0, .ref (ga g 4)), (1, .int x1), (2, .ref (ga g 2)), (3, .int x3), (4, .int x4)] C dX8_countOneMore_4 (by decide) rfl ?_
  obtain ⟨w6, h6, h⟩ := e_bd h
  refine z_sub [2, 3, 4, 5, 6, 1, 0] rfl ?_
  refine lp_X8_countOneMore_6 C _ _ _ _ _ _ _ h6 ?_
  obtain rfl := Option.some.inj h
  exact z_vret C E dX8_countOneMore_95
theorem hy_X8_like : yX8_like.cls = RX8 ∧ yX8_like.cls ≠ "java/lang/invoke/MethodHandle" ∧ yX8_like.cls ≠ "java/lang/invoke/VarHandle" ∧ (parseMethodDescriptor yX8_like.desc).map (fun d => d.parameters.length) = some 3 := by decide +kernel
def wX8_like : List Cond := Cond.code yX8_like cX8_like 6 (some .int) :: TB
def f_X8_like_L15 : Nat → MM → Int32 → Int32 → Int32 → Option (MM)
  | 0, _, _, _, _ => none
  | n + 1, M, x3, x4, x5 =>
    if x4 < x5 then
      some M
    else
      (z_sto M 19 11 x5 (0 : Int32)).bind fun (M29 : MM) =>
      f_X8_like_L15 n M29 x3 x4 (x5 + (1 : Int32))
def f_X8_like_L39 : Nat → MM → Int32 → Int32 → Int32 → Option (MM)
  | 0, _, _, _, _ => none
  | n + 1, M, x3, x4, x5 =>
    (f_X7_signs M ).bind fun (v42 : Int32) =>
    if v42 ≤ x5 then
      some M
    else
      (f_X7_signNumber M x5).bind fun (v51 : Int32) =>
      (if v51 = (10 : Int32) then
        some M
      else
        (f_X7_signNumber M x5).bind fun (v63 : Int32) =>
        (f_X8_countOneMore M v63 x3 x4).bind fun (M70 : MM) =>
        some M70
      ).bind fun (j56 : MM) =>
        f_X8_like_L39 n j56 x3 x4 (x5 + (1 : Int32))
def f_X8_like (M : MM) (x3 : Int32) : Option (Int32 × MM) :=
  (f_X1_sizeOf M x3).bind fun (v2 : Int32) =>
  (f_X8_like_L15 FU M x3 (if (10 : Int32) < v2 then (10 : Int32) else v2) (0 : Int32)).bind fun (w15 : MM) =>
  (f_X8_like_L39 FU w15 x3 (if (10 : Int32) < v2 then (10 : Int32) else v2) (0 : Int32)).bind fun (w39 : MM) =>
  (z_ld w39 19 11 (if (10 : Int32) < v2 then (10 : Int32) else v2)).bind fun (v85 : Int32) =>
  some (v85, w39)
set_option maxRecDepth 100000 in
set_option maxHeartbeats 4000000 in
theorem lp_X8_like_15 {l : Launch} {g : Gx} {x : Cx} (C : zC g x l RX8 cX8_like wX8_like (rmm 3 70) 6) {r : MM} : ∀ (n : Nat) (M : MM) (x3 x4 x5 : Int32) , f_X8_like_L15 n M x3 x4 x5 = some r → zJ g x r 36 [(0, .ref (ga g 4)), (1, .ref (ga g 1)), (2, .ref (ga g 2)), (3, .int x3), (4, .int x4)] [] → zJ g x M 15 [(0, .ref (ga g 4)), (1, .ref (ga g 1)), (2, .ref (ga g 2)), (3, .int x3), (4, .int x4), (5, .int x5)] [] := by
  intro n
  induction n with
  | zero =>
    intro M x3 x4 x5 h hj
    exact absurd h (by simp [f_X8_like_L15])
  | succ n ih =>
    intro M x3 x4 x5 h hj
    rw [f_X8_like_L15] at h
    refine z_iload C dX8_like_15 rfl ?_
    refine z_iload C dX8_like_17 rfl ?_
    refine z_icmp_gt 36 C dX8_like_19 (by decide) (fun hc => ?_) (fun hc => ?_)
    · have h := e_t hc h
      obtain rfl := Option.some.inj h
      exact z_sub [0, 1, 2, 3, 4] rfl hj
    · have h := e_f hc h
      refine z_aload_n C dX8_like_22 rfl ?_
      refine z_get C O_4 0 rfl (fun _ h9 => hsT _ (inX8 _ h9)) (by decide) (hsT _ tw_1_96) dX8_like_23 rfl ?_
      refine z_iload C dX8_like_26 rfl ?_
      refine z_iconst (0 : Int32) C dX8_like_28 (by decide) ?_
      obtain ⟨M29, h29, h⟩ := e_bd h
      refine z_iast C I_19 h29 dX8_like_29 ?_
      refine z_iinc (v := (x5 + (1 : Int32))) [(5, .int (x5 + (1 : Int32))), (0, .ref (ga g 4)), (1, .ref (ga g 1)), (2, .ref (ga g 2)), (3, .int x3), (4, .int x4)] C dX8_like_30 rfl rfl (by decide) rfl ?_
      refine z_goto 15 C dX8_like_33 (by decide) ?_
      refine z_sub [1, 2, 3, 4, 5, 0] rfl ?_
      exact ih _ _ _ _ h hj
set_option maxRecDepth 100000 in
set_option maxHeartbeats 4000000 in
theorem lp_X8_like_39 {l : Launch} {g : Gx} {x : Cx} (C : zC g x l RX8 cX8_like wX8_like (rmm 3 70) 6) {r : MM} : ∀ (n : Nat) (M : MM) (x3 x4 x5 : Int32) , f_X8_like_L39 n M x3 x4 x5 = some r → zJ g x r 79 [(0, .ref (ga g 4)), (4, .int x4)] [] → zJ g x M 39 [(0, .ref (ga g 4)), (1, .ref (ga g 1)), (2, .ref (ga g 2)), (3, .int x3), (4, .int x4), (5, .int x5)] [] := by
  intro n
  induction n with
  | zero =>
    intro M x3 x4 x5 h hj
    exact absurd h (by simp [f_X8_like_L39])
  | succ n ih =>
    intro M x3 x4 x5 h hj
    rw [f_X8_like_L39] at h
    refine z_iload C dX8_like_39 rfl ?_
    refine z_aload_n C dX8_like_41 rfl ?_
    obtain ⟨v42, h42, h⟩ := e_bd h
    refine z_callVi (As := []) C (c_X7_signs l g h42) rfl O_1 rfl (gcV hsT tw_2_41 cw_X7_signs) rfl rfl rfl hy_X7_signs rfl ⟨Nat.le_of_ble_eq_true rfl, Nat.le_of_ble_eq_true rfl⟩ (Nat.le_of_ble_eq_true rfl) dX8_like_42 ?_
    refine z_icmp_ge 79 C dX8_like_45 (by decide) (fun hc => ?_) (fun hc => ?_)
    · have h := e_t hc h
      obtain rfl := Option.some.inj h
      exact z_sub [0, 4] rfl hj
    · have h := e_f hc h
      refine z_aload_n C dX8_like_48 rfl ?_
      refine z_iload C dX8_like_49 rfl ?_
      obtain ⟨v51, h51, h⟩ := e_bd h
      refine z_callVi (As := [.int x5]) C (c_X7_signNumber l g h51) rfl O_1 rfl (gcV hsT tw_2_46 cw_X7_signNumber) rfl rfl rfl hy_X7_signNumber rfl ⟨Nat.le_of_ble_eq_true rfl, Nat.le_of_ble_eq_true rfl⟩ (Nat.le_of_ble_eq_true rfl) dX8_like_51 ?_
      refine z_bipush (10 : Int32) C dX8_like_54 (by decide) ?_
      obtain ⟨j56, h56, h⟩ := e_bd h
      have hj56 : zJ g x j56 73 [(0, .ref (ga g 4)), (1, .ref (ga g 1)), (2, .ref (ga g 2)), (3, .int x3), (4, .int x4), (5, .int x5)] [] := by
        refine z_iinc (v := (x5 + (1 : Int32))) [(5, .int (x5 + (1 : Int32))), (0, .ref (ga g 4)), (1, .ref (ga g 1)), (2, .ref (ga g 2)), (3, .int x3), (4, .int x4)] C dX8_like_73 rfl rfl (by decide) rfl ?_
        refine z_goto 39 C dX8_like_76 (by decide) ?_
        refine z_sub [1, 2, 3, 4, 5, 0] rfl ?_
        exact ih _ _ _ _ h hj
      have h := h56
      refine z_icmp_eq 73 C dX8_like_56 (by decide) (fun hc => ?_) (fun hc => ?_)
      · have h := e_t hc h
        obtain rfl := Option.some.inj h
        exact z_sub [0, 1, 2, 3, 4, 5] rfl hj56
      · have h := e_f hc h
        refine z_aload_n C dX8_like_59 rfl ?_
        refine z_aload_n C dX8_like_60 rfl ?_
        refine z_iload C dX8_like_61 rfl ?_
        obtain ⟨v63, h63, h⟩ := e_bd h
        refine z_callVi (As := [.int x5]) C (c_X7_signNumber l g h63) rfl O_1 rfl (gcV hsT tw_2_46 cw_X7_signNumber) rfl rfl rfl hy_X7_signNumber rfl ⟨Nat.le_of_ble_eq_true rfl, Nat.le_of_ble_eq_true rfl⟩ (Nat.le_of_ble_eq_true rfl) dX8_like_63 ?_
        refine z_aload_n C dX8_like_66 rfl ?_
        refine z_iload_n C dX8_like_67 rfl ?_
        refine z_iload C dX8_like_68 rfl ?_
        obtain ⟨M70, h70, h⟩ := e_bd h
        refine z_callVv (As := [.int v63, .ref (ga g 2), .int x3, .int x4]) C (c_X8_countOneMore l g h70) rfl O_4 rfl (gcV hsT tw_2_73 cw_X8_countOneMore) rfl rfl rfl hy_X8_countOneMore rfl ⟨Nat.le_of_ble_eq_true rfl, Nat.le_of_ble_eq_true rfl⟩ (Nat.le_of_ble_eq_true rfl) dX8_like_70 ?_
        obtain rfl := Option.some.inj h
        exact z_sub [0, 1, 2, 3, 4, 5] rfl hj56
set_option maxRecDepth 100000 in
set_option maxHeartbeats 4000000 in
theorem c_X8_like (l : Launch) (g : Gx) {M : MM} {x3 : Int32} {r : Int32 × MM} (h : f_X8_like M x3 = some r) : zMi l yX8_like wX8_like (rmm 3 70) [.ref (ga g 4), .ref (ga g 1), .ref (ga g 2), .int x3] g M r.1 r.2 := by
  refine zMi_of .int (by decide) rfl (Nat.le_of_ble_eq_true rfl) rfl rfl ?_
  intro x C E
  show zJ g x M 0 [(0, .ref (ga g 4)), (1, .ref (ga g 1)), (2, .ref (ga g 2)), (3, .int x3)] []
  unfold f_X8_like at h
  refine z_aload_n C dX8_like_0 rfl ?_
  refine z_iload_n C dX8_like_1 rfl ?_
  obtain ⟨v2, h2, h⟩ := e_bd h
  refine z_callVi (As := [.int x3]) C (c_X1_sizeOf l g h2) rfl O_2 rfl (gcV hsT tw_2_42 cw_X1_sizeOf) rfl rfl rfl hy_X1_sizeOf rfl ⟨Nat.le_of_ble_eq_true rfl, Nat.le_of_ble_eq_true rfl⟩ (Nat.le_of_ble_eq_true rfl) dX8_like_2 ?_
  refine z_bipush (10 : Int32) C dX8_like_5 (by decide) ?_
  refine z_min C (hsT _ tw_2_70) (hsT _ tw_2_71) (hsT _ tw_1_10) (hsT _ tw_2_72) (by decide) (Nat.le_of_ble_eq_true rfl) dX8_like_7 ?_
  refine z_istore [(4, .int (if (10 : Int32) < v2 then (10 : Int32) else v2)), (0, .ref (ga g 4)), (1, .ref (ga g 1)), (2, .ref (ga g 2)), (3, .int x3)] C dX8_like_10 (by decide) rfl ?_
  refine z_iconst (0 : Int32) C dX8_like_12 (by decide) ?_
  refine z_istore [(5, .int (0 : Int32)), (4, .int (if (10 : Int32) < v2 then (10 : Int32) else v2)), (0, .ref (ga g 4)), (1, .ref (ga g 1)), (2, .ref (ga g 2)), (3, .int x3)] C dX8_like_13 (by decide) rfl ?_
  obtain ⟨w15, h15, h⟩ := e_bd h
  refine z_sub [2, 3, 4, 5, 1, 0] rfl ?_
  refine lp_X8_like_15 C _ _ _ _ _ h15 ?_
  refine z_iconst (0 : Int32) C dX8_like_36 (by decide) ?_
  refine z_istore [(5, .int (0 : Int32)), (0, .ref (ga g 4)), (1, .ref (ga g 1)), (2, .ref (ga g 2)), (3, .int x3), (4, .int (if (10 : Int32) < v2 then (10 : Int32) else v2))] C dX8_like_37 (by decide) rfl ?_
  obtain ⟨w39, h39, h⟩ := e_bd h
  refine z_sub [1, 2, 3, 4, 5, 0] rfl ?_
  refine lp_X8_like_39 C _ _ _ _ _ h39 ?_
  refine z_aload_n C dX8_like_79 rfl ?_
  refine z_get C O_4 0 rfl (fun _ h9 => hsT _ (inX8 _ h9)) (by decide) (hsT _ tw_1_96) dX8_like_80 rfl ?_
  refine z_iload C dX8_like_83 rfl ?_
  obtain ⟨v85, h85, h⟩ := e_bd h
  refine z_iald C I_19 h85 dX8_like_85 ?_
  obtain rfl := Option.some.inj h
  exact z_iret C E dX8_like_86
theorem hy_X8_likely : yX8_likely.cls = RX8 ∧ yX8_likely.cls ≠ "java/lang/invoke/MethodHandle" ∧ yX8_likely.cls ≠ "java/lang/invoke/VarHandle" ∧ (parseMethodDescriptor yX8_likely.desc).map (fun d => d.parameters.length) = some 2 := by decide +kernel
def wX8_likely : List Cond := Cond.code yX8_likely cX8_likely 8 (some .int) :: TB
def f_X8_likely_L8 : Nat → MM → Int32 → Int32 → Int32 → Option (MM × Int32)
  | 0, _, _, _, _ => none
  | n + 1, M, x3, x4, x5 =>
    (f_X7_people M ).bind fun (v11 : Int32) =>
    if v11 ≤ x5 then
      some (M, x3)
    else
      (f_X8_like M x5).bind fun (s22 : Int32 × MM) =>
      (if x3 = (-1 : Int32) then
        some (0 : Int32)
      else
        if s22.1 = x4 then
          (f_X1_sizeOf s22.2 x5).bind fun (v42 : Int32) =>
          (f_X1_sizeOf s22.2 x3).bind fun (v47 : Int32) =>
          if v47 ≤ v42 then
            some (0 : Int32)
          else
            some (1 : Int32)
        else
          some (0 : Int32)
      ).bind fun (j29 : Int32) =>
        (if x4 < s22.1 then
          some (x5, s22.1)
        else
          if j29 = 0 then
            some (x3, x4)
          else
            some (x5, s22.1)
        ).bind fun (j64 : Int32 × Int32) =>
          f_X8_likely_L8 n s22.2 j64.1 j64.2 (x5 + (1 : Int32))
def f_X8_likely (M : MM)  : Option (Int32 × MM) :=
  (f_X8_likely_L8 FU M (-1 : Int32) (0 : Int32) (0 : Int32)).bind fun (w8 : MM × Int32) =>
  some (w8.2, w8.1)
set_option maxRecDepth 100000 in
set_option maxHeartbeats 4000000 in
theorem lp_X8_likely_8 {l : Launch} {g : Gx} {x : Cx} (C : zC g x l RX8 cX8_likely wX8_likely (rmm 4 95) 8) {r : MM × Int32} : ∀ (n : Nat) (M : MM) (x3 x4 x5 : Int32) , f_X8_likely_L8 n M x3 x4 x5 = some r → zJ g x r.1 85 [(3, .int r.2)] [] → zJ g x M 8 [(0, .ref (ga g 4)), (1, .ref (ga g 1)), (2, .ref (ga g 2)), (3, .int x3), (4, .int x4), (5, .int x5)] [] := by
  intro n
  induction n with
  | zero =>
    intro M x3 x4 x5 h hj
    exact absurd h (by simp [f_X8_likely_L8])
  | succ n ih =>
    intro M x3 x4 x5 h hj
    rw [f_X8_likely_L8] at h
    refine z_iload C dX8_likely_8 rfl ?_
    refine z_aload_n C dX8_likely_10 rfl ?_
    obtain ⟨v11, h11, h⟩ := e_bd h
    refine z_callVi (As := []) C (c_X7_people l g h11) rfl O_1 rfl (gcV hsT tw_2_40 cw_X7_people) rfl rfl rfl hy_X7_people rfl ⟨Nat.le_of_ble_eq_true rfl, Nat.le_of_ble_eq_true rfl⟩ (Nat.le_of_ble_eq_true rfl) dX8_likely_11 ?_
    refine z_icmp_ge 85 C dX8_likely_14 (by decide) (fun hc => ?_) (fun hc => ?_)
    · have h := e_t hc h
      obtain rfl := Option.some.inj h
      exact z_sub [3] rfl hj
    · have h := e_f hc h
      refine z_aload_n C dX8_likely_17 rfl ?_
      refine z_aload_n C dX8_likely_18 rfl ?_
      refine z_aload_n C dX8_likely_19 rfl ?_
      refine z_iload C dX8_likely_20 rfl ?_
      obtain ⟨s22, h22, h⟩ := e_bd h
      refine z_callVi (As := [.ref (ga g 1), .ref (ga g 2), .int x5]) C (c_X8_like l g h22) rfl O_4 rfl (gcV hsT tw_2_66 cw_X8_like) rfl rfl rfl hy_X8_like rfl ⟨Nat.le_of_ble_eq_true rfl, Nat.le_of_ble_eq_true rfl⟩ (Nat.le_of_ble_eq_true rfl) dX8_likely_22 ?_
      refine z_istore [(6, .int s22.1), (0, .ref (ga g 4)), (1, .ref (ga g 1)), (2, .ref (ga g 2)), (3, .int x3), (4, .int x4), (5, .int x5)] C dX8_likely_25 (by decide) rfl ?_
      refine z_iload_n C dX8_likely_27 rfl ?_
      refine z_iconst (-1 : Int32) C dX8_likely_28 (by decide) ?_
      obtain ⟨j29, h29, h⟩ := e_bd h
      have hj29 : zJ g x s22.2 58 [(0, .ref (ga g 4)), (1, .ref (ga g 1)), (2, .ref (ga g 2)), (3, .int x3), (4, .int x4), (5, .int x5), (6, .int s22.1)] [.int j29] := by
        refine z_istore [(7, .int j29), (0, .ref (ga g 4)), (1, .ref (ga g 1)), (2, .ref (ga g 2)), (3, .int x3), (4, .int x4), (5, .int x5), (6, .int s22.1)] C dX8_likely_58 (by decide) rfl ?_
        refine z_iload C dX8_likely_60 rfl ?_
        refine z_iload C dX8_likely_62 rfl ?_
        obtain ⟨j64, h64, h⟩ := e_bd h
        have hj64 : zJ g x s22.2 79 [(0, .ref (ga g 4)), (1, .ref (ga g 1)), (2, .ref (ga g 2)), (3, .int j64.1), (4, .int j64.2), (5, .int x5)] [] := by
          refine z_iinc (v := (x5 + (1 : Int32))) [(5, .int (x5 + (1 : Int32))), (0, .ref (ga g 4)), (1, .ref (ga g 1)), (2, .ref (ga g 2)), (3, .int j64.1), (4, .int j64.2)] C dX8_likely_79 rfl rfl (by decide) rfl ?_
          refine z_goto 8 C dX8_likely_82 (by decide) ?_
          refine z_sub [1, 2, 3, 4, 5, 0] rfl ?_
          exact ih _ _ _ _ h hj
        have h := h64
        refine z_icmp_gt 72 C dX8_likely_64 (by decide) (fun hc => ?_) (fun hc => ?_)
        · have h := e_t hc h
          refine z_iload C dX8_likely_72 rfl ?_
          refine z_istore_n [(3, .int x5), (7, .int j29), (0, .ref (ga g 4)), (1, .ref (ga g 1)), (2, .ref (ga g 2)), (4, .int x4), (5, .int x5), (6, .int s22.1)] C dX8_likely_74 (by decide) rfl ?_
          refine z_iload C dX8_likely_75 rfl ?_
          refine z_istore [(4, .int s22.1), (3, .int x5), (7, .int j29), (0, .ref (ga g 4)), (1, .ref (ga g 1)), (2, .ref (ga g 2)), (5, .int x5), (6, .int s22.1)] C dX8_likely_77 (by decide) rfl ?_
          obtain rfl := Option.some.inj h
          exact z_sub [3, 4, 5, 1, 0, 6] rfl hj64
        · have h := e_f hc h
          refine z_iload C dX8_likely_67 rfl ?_
          refine z_if_eq 79 C dX8_likely_69 (by decide) (fun hc => ?_) (fun hc => ?_)
          · have h := e_t hc h
            obtain rfl := Option.some.inj h
            exact z_sub [1, 2, 3, 4, 5, 6] rfl hj64
          · have h := e_f hc h
            refine z_iload C dX8_likely_72 rfl ?_
            refine z_istore_n [(3, .int x5), (7, .int j29), (0, .ref (ga g 4)), (1, .ref (ga g 1)), (2, .ref (ga g 2)), (4, .int x4), (5, .int x5), (6, .int s22.1)] C dX8_likely_74 (by decide) rfl ?_
            refine z_iload C dX8_likely_75 rfl ?_
            refine z_istore [(4, .int s22.1), (3, .int x5), (7, .int j29), (0, .ref (ga g 4)), (1, .ref (ga g 1)), (2, .ref (ga g 2)), (5, .int x5), (6, .int s22.1)] C dX8_likely_77 (by decide) rfl ?_
            obtain rfl := Option.some.inj h
            exact z_sub [3, 4, 5, 1, 0, 6] rfl hj64
      have h := h29
      refine z_icmp_eq 57 C dX8_likely_29 (by decide) (fun hc => ?_) (fun hc => ?_)
      · have h := e_t hc h
        refine z_iconst (0 : Int32) C dX8_likely_57 (by decide) ?_
        obtain rfl := Option.some.inj h
        exact z_sub [1, 2, 3, 4, 5, 6, 0] rfl hj29
      · have h := e_f hc h
        refine z_iload C dX8_likely_32 rfl ?_
        refine z_iload C dX8_likely_34 rfl ?_
        refine z_icmp_ne 57 C dX8_likely_36 (by decide) (fun hc => ?_) (fun hc => ?_)
        · have h := e_f hc h
          refine z_iconst (0 : Int32) C dX8_likely_57 (by decide) ?_
          obtain rfl := Option.some.inj h
          exact z_sub [1, 2, 3, 4, 5, 6, 0] rfl hj29
        · have h := e_t hc h
          refine z_aload_n C dX8_likely_39 rfl ?_
          refine z_iload C dX8_likely_40 rfl ?_
          obtain ⟨v42, h42, h⟩ := e_bd h
          refine z_callVi (As := [.int x5]) C (c_X1_sizeOf l g h42) rfl O_2 rfl (gcV hsT tw_2_42 cw_X1_sizeOf) rfl rfl rfl hy_X1_sizeOf rfl ⟨Nat.le_of_ble_eq_true rfl, Nat.le_of_ble_eq_true rfl⟩ (Nat.le_of_ble_eq_true rfl) dX8_likely_42 ?_
          refine z_aload_n C dX8_likely_45 rfl ?_
          refine z_iload_n C dX8_likely_46 rfl ?_
          obtain ⟨v47, h47, h⟩ := e_bd h
          refine z_callVi (As := [.int x3]) C (c_X1_sizeOf l g h47) rfl O_2 rfl (gcV hsT tw_2_42 cw_X1_sizeOf) rfl rfl rfl hy_X1_sizeOf rfl ⟨Nat.le_of_ble_eq_true rfl, Nat.le_of_ble_eq_true rfl⟩ (Nat.le_of_ble_eq_true rfl) dX8_likely_47 ?_
          refine z_icmp_ge 57 C dX8_likely_50 (by decide) (fun hc => ?_) (fun hc => ?_)
          · have h := e_t hc h
            refine z_iconst (0 : Int32) C dX8_likely_57 (by decide) ?_
            obtain rfl := Option.some.inj h
            exact z_sub [1, 2, 3, 4, 5, 6, 0] rfl hj29
          · have h := e_f hc h
            refine z_iconst (1 : Int32) C dX8_likely_53 (by decide) ?_
            refine z_goto 58 C dX8_likely_54 (by decide) ?_
            obtain rfl := Option.some.inj h
            exact z_sub [1, 2, 3, 4, 5, 6, 0] rfl hj29
set_option maxRecDepth 100000 in
set_option maxHeartbeats 4000000 in
theorem c_X8_likely (l : Launch) (g : Gx) {M : MM}  {r : Int32 × MM} (h : f_X8_likely M  = some r) : zMi l yX8_likely wX8_likely (rmm 4 95) [.ref (ga g 4), .ref (ga g 1), .ref (ga g 2)] g M r.1 r.2 := by
  refine zMi_of .int (by decide) rfl (Nat.le_of_ble_eq_true rfl) rfl rfl ?_
  intro x C E
  show zJ g x M 0 [(0, .ref (ga g 4)), (1, .ref (ga g 1)), (2, .ref (ga g 2))] []
  unfold f_X8_likely at h
  refine z_iconst (-1 : Int32) C dX8_likely_0 (by decide) ?_
  refine z_istore_n [(3, .int (-1 : Int32)), (0, .ref (ga g 4)), (1, .ref (ga g 1)), (2, .ref (ga g 2))] C dX8_likely_1 (by decide) rfl ?_
  refine z_iconst (0 : Int32) C dX8_likely_2 (by decide) ?_
  refine z_istore [(4, .int (0 : Int32)), (3, .int (-1 : Int32)), (0, .ref (ga g 4)), (1, .ref (ga g 1)), (2, .ref (ga g 2))] C dX8_likely_3 (by decide) rfl ?_
  refine z_iconst (0 : Int32) C dX8_likely_5 (by decide) ?_
  refine z_istore [(5, .int (0 : Int32)), (4, .int (0 : Int32)), (3, .int (-1 : Int32)), (0, .ref (ga g 4)), (1, .ref (ga g 1)), (2, .ref (ga g 2))] C dX8_likely_6 (by decide) rfl ?_
  obtain ⟨w8, h8, h⟩ := e_bd h
  refine z_sub [3, 4, 5, 2, 1, 0] rfl ?_
  refine lp_X8_likely_8 C _ _ _ _ _ h8 ?_
  refine z_iload_n C dX8_likely_85 rfl ?_
  obtain rfl := Option.some.inj h
  exact z_iret C E dX8_likely_86
