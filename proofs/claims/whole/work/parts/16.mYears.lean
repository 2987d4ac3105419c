theorem hy_X9_birth : yX9_birth.cls ≠ "java/lang/invoke/MethodHandle" ∧ yX9_birth.cls ≠ "java/lang/invoke/VarHandle" ∧ (parseMethodDescriptor yX9_birth.desc).map (fun d => d.parameters.length) = some 1 := by decide +kernel
def wX9_birth : List Cond := Cond.code yX9_birth cX9_birth 1 (some .int) :: TB
def f_X9_birth (M : MM) (x0 : Int32) : Option Int32 :=
  some ((2 : Int32) * x0)
set_option maxRecDepth 100000 in
set_option maxHeartbeats 4000000 in
theorem c_X9_birth (l : Launch) (g : Gx) {M : MM} {x0 : Int32} {r : Int32} (h : f_X9_birth M x0 = some r) : zMi l yX9_birth wX9_birth (rmm 0 0) [.int x0] g M r M := by
  refine zMi_of .int (by decide) rfl (Nat.le_of_ble_eq_true rfl) rfl rfl ?_
  intro x C E
  show zJ g x M 0 [(0, .int x0)] []
  unfold f_X9_birth at h
  refine z_iconst (2 : Int32) C dX9_birth_0 (by decide) ?_
  refine z_iload_n C dX9_birth_1 rfl ?_
  refine z_imul C dX9_birth_2 ?_
  obtain rfl := Option.some.inj h
  exact z_iret C E dX9_birth_3
theorem hy_X9_death : yX9_death.cls ≠ "java/lang/invoke/MethodHandle" ∧ yX9_death.cls ≠ "java/lang/invoke/VarHandle" ∧ (parseMethodDescriptor yX9_death.desc).map (fun d => d.parameters.length) = some 1 := by decide +kernel
def wX9_death : List Cond := Cond.code yX9_death cX9_death 1 (some .int) :: TB
def f_X9_death (M : MM) (x0 : Int32) : Option Int32 :=
  some (((2 : Int32) * x0) + (1 : Int32))
set_option maxRecDepth 100000 in
set_option maxHeartbeats 4000000 in
theorem c_X9_death (l : Launch) (g : Gx) {M : MM} {x0 : Int32} {r : Int32} (h : f_X9_death M x0 = some r) : zMi l yX9_death wX9_death (rmm 0 0) [.int x0] g M r M := by
  refine zMi_of .int (by decide) rfl (Nat.le_of_ble_eq_true rfl) rfl rfl ?_
  intro x C E
  show zJ g x M 0 [(0, .int x0)] []
  unfold f_X9_death at h
  refine z_iconst (2 : Int32) C dX9_death_0 (by decide) ?_
  refine z_iload_n C dX9_death_1 rfl ?_
  refine z_imul C dX9_death_2 ?_
  refine z_iconst (1 : Int32) C dX9_death_3 (by decide) ?_
  refine z_iadd C dX9_death_4 ?_
  obtain rfl := Option.some.inj h
  exact z_iret C E dX9_death_5
theorem hy_X9_layBounds : yX9_layBounds.cls = RX9 ∧ yX9_layBounds.cls ≠ "java/lang/invoke/MethodHandle" ∧ yX9_layBounds.cls ≠ "java/lang/invoke/VarHandle" ∧ (parseMethodDescriptor yX9_layBounds.desc).map (fun d => d.parameters.length) = some 1 := by decide +kernel
def wX9_layBounds : List Cond := Cond.code yX9_layBounds cX9_layBounds 3 none :: TB
def f_X9_layBounds_L2 : Nat → MM → Int32 → Option (MM)
  | 0, _, _ => none
  | n + 1, M, x2 =>
    (f_X7_people M ).bind fun (v4 : Int32) =>
    if v4 ≤ x2 then
      some M
    else
      (f_X9_birth M x2).bind fun (v15 : Int32) =>
      (f_X7_fact M x2 (4 : Int32)).bind fun (v21 : Int32) =>
      (z_sto M 14 32 v15 v21).bind fun (M24 : MM) =>
      (f_X9_birth M24 x2).bind fun (v30 : Int32) =>
      (f_X7_fact M24 x2 (5 : Int32)).bind fun (v36 : Int32) =>
      (z_sto M24 15 32 v30 v36).bind fun (M39 : MM) =>
      (f_X9_death M39 x2).bind fun (v45 : Int32) =>
      (f_X7_fact M39 x2 (6 : Int32)).bind fun (v52 : Int32) =>
      (z_sto M39 14 32 v45 v52).bind fun (M55 : MM) =>
      (f_X9_death M55 x2).bind fun (v61 : Int32) =>
      (f_X7_fact M55 x2 (7 : Int32)).bind fun (v68 : Int32) =>
      (z_sto M55 15 32 v61 v68).bind fun (M71 : MM) =>
      f_X9_layBounds_L2 n M71 (x2 + (1 : Int32))
def f_X9_layBounds (M : MM)  : Option MM :=
  (f_X9_layBounds_L2 FU M (0 : Int32)).bind fun (w2 : MM) =>
  some w2
set_option maxRecDepth 100000 in
set_option maxHeartbeats 4000000 in
theorem lp_X9_layBounds_2 {l : Launch} {g : Gx} {x : Cx} (C : zC g x l RX9 cX9_layBounds wX9_layBounds (rmm 2 43) 3) {r : MM} : ∀ (n : Nat) (M : MM) (x2 : Int32) , f_X9_layBounds_L2 n M x2 = some r → zJ g x r 78 [] [] → zJ g x M 2 [(0, .ref (ga g 3)), (1, .ref (ga g 1)), (2, .int x2)] [] := by
  intro n
  induction n with
  | zero =>
    intro M x2 h hj
    exact absurd h (by simp [f_X9_layBounds_L2])
  | succ n ih =>
    intro M x2 h hj
    rw [f_X9_layBounds_L2] at h
    refine z_iload_n C dX9_layBounds_2 rfl ?_
    refine z_aload_n C dX9_layBounds_3 rfl ?_
    obtain ⟨v4, h4, h⟩ := e_bd h
    refine z_callVi (As := []) C (c_X7_people l g h4) rfl O_1 rfl (gcV hsT tw_3_28 cw_X7_people) rfl rfl rfl hy_X7_people rfl ⟨Nat.le_of_ble_eq_true rfl, Nat.le_of_ble_eq_true rfl⟩ (Nat.le_of_ble_eq_true rfl) dX9_layBounds_4 ?_
    refine z_icmp_ge 78 C dX9_layBounds_7 (by decide) (fun hc => ?_) (fun hc => ?_)
    · have h := e_t hc h
      obtain rfl := Option.some.inj h
      exact z_sub [] rfl hj
    · have h := e_f hc h
      refine z_aload_n C dX9_layBounds_10 rfl ?_
      refine z_get C O_3 0 rfl (fun _ h9 => hsT _ (inX9 _ h9)) (by decide) (hsT _ tw_1_65) dX9_layBounds_11 rfl ?_
      refine z_iload_n C dX9_layBounds_14 rfl ?_
      obtain ⟨v15, h15, h⟩ := e_bd h
      refine z_callSi (As := [.int x2]) C (c_X9_birth l g h15) rfl (gcS hsT tw_2_111 cw_X9_birth) rfl rfl rfl hy_X9_birth rfl ⟨Nat.le_of_ble_eq_true rfl, Nat.le_of_ble_eq_true rfl⟩ (Nat.le_of_ble_eq_true rfl) dX9_layBounds_15 ?_
      refine z_aload_n C dX9_layBounds_18 rfl ?_
      refine z_iload_n C dX9_layBounds_19 rfl ?_
      refine z_iconst (4 : Int32) C dX9_layBounds_20 (by decide) ?_
      obtain ⟨v21, h21, h⟩ := e_bd h
      refine z_callVi (As := [.int x2, .int (4 : Int32)]) C (c_X7_fact l g h21) rfl O_1 rfl (gcV hsT tw_3_33 cw_X7_fact) rfl rfl rfl hy_X7_fact rfl ⟨Nat.le_of_ble_eq_true rfl, Nat.le_of_ble_eq_true rfl⟩ (Nat.le_of_ble_eq_true rfl) dX9_layBounds_21 ?_
      obtain ⟨M24, h24, h⟩ := e_bd h
      refine z_iast C I_14 h24 dX9_layBounds_24 ?_
      refine z_aload_n C dX9_layBounds_25 rfl ?_
      refine z_get C O_3 1 rfl (fun _ h9 => hsT _ (inX9 _ h9)) (by decide) (hsT _ tw_1_66) dX9_layBounds_26 rfl ?_
      refine z_iload_n C dX9_layBounds_29 rfl ?_
      obtain ⟨v30, h30, h⟩ := e_bd h
      refine z_callSi (As := [.int x2]) C (c_X9_birth l g h30) rfl (gcS hsT tw_2_111 cw_X9_birth) rfl rfl rfl hy_X9_birth rfl ⟨Nat.le_of_ble_eq_true rfl, Nat.le_of_ble_eq_true rfl⟩ (Nat.le_of_ble_eq_true rfl) dX9_layBounds_30 ?_
      refine z_aload_n C dX9_layBounds_33 rfl ?_
      refine z_iload_n C dX9_layBounds_34 rfl ?_
      refine z_iconst (5 : Int32) C dX9_layBounds_35 (by decide) ?_
      obtain ⟨v36, h36, h⟩ := e_bd h
      refine z_callVi (As := [.int x2, .int (5 : Int32)]) C (c_X7_fact l g h36) rfl O_1 rfl (gcV hsT tw_3_33 cw_X7_fact) rfl rfl rfl hy_X7_fact rfl ⟨Nat.le_of_ble_eq_true rfl, Nat.le_of_ble_eq_true rfl⟩ (Nat.le_of_ble_eq_true rfl) dX9_layBounds_36 ?_
      obtain ⟨M39, h39, h⟩ := e_bd h
      refine z_iast C I_15 h39 dX9_layBounds_39 ?_
      refine z_aload_n C dX9_layBounds_40 rfl ?_
      refine z_get C O_3 0 rfl (fun _ h9 => hsT _ (inX9 _ h9)) (by decide) (hsT _ tw_1_65) dX9_layBounds_41 rfl ?_
      refine z_iload_n C dX9_layBounds_44 rfl ?_
      obtain ⟨v45, h45, h⟩ := e_bd h
      refine z_callSi (As := [.int x2]) C (c_X9_death l g h45) rfl (gcS hsT tw_2_134 cw_X9_death) rfl rfl rfl hy_X9_death rfl ⟨Nat.le_of_ble_eq_true rfl, Nat.le_of_ble_eq_true rfl⟩ (Nat.le_of_ble_eq_true rfl) dX9_layBounds_45 ?_
      refine z_aload_n C dX9_layBounds_48 rfl ?_
      refine z_iload_n C dX9_layBounds_49 rfl ?_
      refine z_bipush (6 : Int32) C dX9_layBounds_50 (by decide) ?_
      obtain ⟨v52, h52, h⟩ := e_bd h
      refine z_callVi (As := [.int x2, .int (6 : Int32)]) C (c_X7_fact l g h52) rfl O_1 rfl (gcV hsT tw_3_33 cw_X7_fact) rfl rfl rfl hy_X7_fact rfl ⟨Nat.le_of_ble_eq_true rfl, Nat.le_of_ble_eq_true rfl⟩ (Nat.le_of_ble_eq_true rfl) dX9_layBounds_52 ?_
      obtain ⟨M55, h55, h⟩ := e_bd h
      refine z_iast C I_14 h55 dX9_layBounds_55 ?_
      refine z_aload_n C dX9_layBounds_56 rfl ?_
      refine z_get C O_3 1 rfl (fun _ h9 => hsT _ (inX9 _ h9)) (by decide) (hsT _ tw_1_66) dX9_layBounds_57 rfl ?_
      refine z_iload_n C dX9_layBounds_60 rfl ?_
      obtain ⟨v61, h61, h⟩ := e_bd h
      refine z_callSi (As := [.int x2]) C (c_X9_death l g h61) rfl (gcS hsT tw_2_134 cw_X9_death) rfl rfl rfl hy_X9_death rfl ⟨Nat.le_of_ble_eq_true rfl, Nat.le_of_ble_eq_true rfl⟩ (Nat.le_of_ble_eq_true rfl) dX9_layBounds_61 ?_
      refine z_aload_n C dX9_layBounds_64 rfl ?_
      refine z_iload_n C dX9_layBounds_65 rfl ?_
      refine z_bipush (7 : Int32) C dX9_layBounds_66 (by decide) ?_
      obtain ⟨v68, h68, h⟩ := e_bd h
      refine z_callVi (As := [.int x2, .int (7 : Int32)]) C (c_X7_fact l g h68) rfl O_1 rfl (gcV hsT tw_3_33 cw_X7_fact) rfl rfl rfl hy_X7_fact rfl ⟨Nat.le_of_ble_eq_true rfl, Nat.le_of_ble_eq_true rfl⟩ (Nat.le_of_ble_eq_true rfl) dX9_layBounds_68 ?_
      obtain ⟨M71, h71, h⟩ := e_bd h
      refine z_iast C I_15 h71 dX9_layBounds_71 ?_
      refine z_iinc (v := (x2 + (1 : Int32))) [(2, .int (x2 + (1 : Int32))), (0, .ref (ga g 3)), (1, .ref (ga g 1))] C dX9_layBounds_72 rfl rfl (by decide) rfl ?_
      refine z_goto 2 C dX9_layBounds_75 (by decide) ?_
      refine z_sub [1, 2, 0] rfl ?_
      exact ih _ _ h hj
set_option maxRecDepth 100000 in
set_option maxHeartbeats 4000000 in
theorem c_X9_layBounds (l : Launch) (g : Gx) {M : MM}  {r : MM} (h : f_X9_layBounds M  = some r) : zMv l yX9_layBounds wX9_layBounds (rmm 2 43) [.ref (ga g 3), .ref (ga g 1)] g M r := by
  refine zMv_of (by decide) rfl (Nat.le_of_ble_eq_true rfl) rfl rfl ?_
  intro x C E
  show zJ g x M 0 [(0, .ref (ga g 3)), (1, .ref (ga g 1))] []
  unfold f_X9_layBounds at h
  refine z_iconst (0 : Int32) C dX9_layBounds_0 (by decide) ?_
  refine z_istore_n [(2, .int (0 : Int32)), (0, .ref (ga g 3)), (1, .ref (ga g 1))] C dX9_layBounds_1 (by decide) rfl ?_
  obtain ⟨w2, h2, h⟩ := e_bd h
  refine z_sub [1, 2, 0] rfl ?_
  refine lp_X9_layBounds_2 C _ _ _ h2 ?_
  obtain rfl := Option.some.inj h
  exact z_vret C E dX9_layBounds_78
theorem hy_X9_addGap : yX9_addGap.cls = RX9 ∧ yX9_addGap.cls ≠ "java/lang/invoke/MethodHandle" ∧ yX9_addGap.cls ≠ "java/lang/invoke/VarHandle" ∧ (parseMethodDescriptor yX9_addGap.desc).map (fun d => d.parameters.length) = some 3 := by decide +kernel
def wX9_addGap : List Cond := Cond.code yX9_addGap cX9_addGap 4 none :: TB
def f_X9_addGap (M : MM) (x1 : Int32) (x2 : Int32) (x3 : Int32) : Option MM :=
  (if (112 : Int32) ≤ (M 3 6) then
    some M
  else
    (z_sto M 16 112 (M 3 6) x1).bind fun (M21 : MM) =>
    (z_sto M21 17 112 (M21 3 6) x2).bind fun (M31 : MM) =>
    (z_sto M31 18 112 (M31 3 6) x3).bind fun (M41 : MM) =>
    (z_stf M41 3 6 ((M41 3 6) + (1 : Int32))).bind fun (M49 : MM) =>
    some M49
  ).bind fun (j9 : MM) =>
    some j9
set_option maxRecDepth 100000 in
set_option maxHeartbeats 4000000 in
theorem c_X9_addGap (l : Launch) (g : Gx) {M : MM} {x1 : Int32} {x2 : Int32} {x3 : Int32} {r : MM} (h : f_X9_addGap M x1 x2 x3 = some r) : zMv l yX9_addGap wX9_addGap (rmm 0 0) [.ref (ga g 3), .int x1, .int x2, .int x3] g M r := by
  refine zMv_of (by decide) rfl (Nat.le_of_ble_eq_true rfl) rfl rfl ?_
  intro x C E
  show zJ g x M 0 [(0, .ref (ga g 3)), (1, .int x1), (2, .int x2), (3, .int x3)] []
  unfold f_X9_addGap at h
  refine z_aload_n C dX9_addGap_0 rfl ?_
  refine z_get C O_3 6 rfl (fun _ h9 => hsT _ (inX9 _ h9)) (by decide) (hsT _ tw_1_71) dX9_addGap_1 rfl ?_
  refine z_aload_n C dX9_addGap_4 rfl ?_
  refine z_get C O_3 4 rfl (fun _ h9 => hsT _ (inX9 _ h9)) (by decide) (hsT _ tw_1_69) dX9_addGap_5 rfl ?_
  refine z_alen (112 : Int32) C I_18 (by decide) dX9_addGap_8 ?_
  obtain ⟨j9, h9, h⟩ := e_bd h
  have hj9 : zJ g x j9 52 [] [] := by
    obtain rfl := Option.some.inj h
    exact z_vret C E dX9_addGap_52
  have h := h9
  refine z_icmp_ge 52 C dX9_addGap_9 (by decide) (fun hc => ?_) (fun hc => ?_)
  · have h := e_t hc h
    obtain rfl := Option.some.inj h
    exact z_sub [] rfl hj9
  · have h := e_f hc h
    refine z_aload_n C dX9_addGap_12 rfl ?_
    refine z_get C O_3 2 rfl (fun _ h9 => hsT _ (inX9 _ h9)) (by decide) (hsT _ tw_1_67) dX9_addGap_13 rfl ?_
    refine z_aload_n C dX9_addGap_16 rfl ?_
    refine z_get C O_3 6 rfl (fun _ h9 => hsT _ (inX9 _ h9)) (by decide) (hsT _ tw_1_71) dX9_addGap_17 rfl ?_
    refine z_iload_n C dX9_addGap_20 rfl ?_
    obtain ⟨M21, h21, h⟩ := e_bd h
    refine z_iast C I_16 h21 dX9_addGap_21 ?_
    refine z_aload_n C dX9_addGap_22 rfl ?_
    refine z_get C O_3 3 rfl (fun _ h9 => hsT _ (inX9 _ h9)) (by decide) (hsT _ tw_1_68) dX9_addGap_23 rfl ?_
    refine z_aload_n C dX9_addGap_26 rfl ?_
    refine z_get C O_3 6 rfl (fun _ h9 => hsT _ (inX9 _ h9)) (by decide) (hsT _ tw_1_71) dX9_addGap_27 rfl ?_
    refine z_iload_n C dX9_addGap_30 rfl ?_
    obtain ⟨M31, h31, h⟩ := e_bd h
    refine z_iast C I_17 h31 dX9_addGap_31 ?_
    refine z_aload_n C dX9_addGap_32 rfl ?_
    refine z_get C O_3 4 rfl (fun _ h9 => hsT _ (inX9 _ h9)) (by decide) (hsT _ tw_1_69) dX9_addGap_33 rfl ?_
    refine z_aload_n C dX9_addGap_36 rfl ?_
    refine z_get C O_3 6 rfl (fun _ h9 => hsT _ (inX9 _ h9)) (by decide) (hsT _ tw_1_71) dX9_addGap_37 rfl ?_
    refine z_iload_n C dX9_addGap_40 rfl ?_
    obtain ⟨M41, h41, h⟩ := e_bd h
    refine z_iast C I_18 h41 dX9_addGap_41 ?_
    refine z_aload_n C dX9_addGap_42 rfl ?_
    refine z_dup C dX9_addGap_43 rfl ?_
    refine z_get C O_3 6 rfl (fun _ h9 => hsT _ (inX9 _ h9)) (by decide) (hsT _ tw_1_71) dX9_addGap_44 rfl ?_
    refine z_iconst (1 : Int32) C dX9_addGap_47 (by decide) ?_
    refine z_iadd C dX9_addGap_48 ?_
    obtain ⟨M49, h49, h⟩ := e_bd h
    refine z_puti tyX9 C O_3 6 O_3_6 rfl (fun _ h9 => hsT _ (inX9 _ h9)) tyX9_ok nmX9 (by decide) rfl (Nat.le_of_ble_eq_true rfl) (hsT _ tw_1_71) dX9_addGap_49 rfl h49 ?_
    obtain rfl := Option.some.inj h
    exact z_sub [] rfl hj9
theorem hy_X9_layGaps : yX9_layGaps.cls = RX9 ∧ yX9_layGaps.cls ≠ "java/lang/invoke/MethodHandle" ∧ yX9_layGaps.cls ≠ "java/lang/invoke/VarHandle" ∧ (parseMethodDescriptor yX9_layGaps.desc).map (fun d => d.parameters.length) = some 1 := by decide +kernel
def wX9_layGaps : List Cond := Cond.code yX9_layGaps cX9_layGaps 5 none :: TB
def f_X9_layGaps_L7 : Nat → MM → Int32 → Option (MM)
  | 0, _, _ => none
  | n + 1, M, x2 =>
    (f_X7_people M ).bind fun (v9 : Int32) =>
    if v9 ≤ x2 then
      some M
    else
      (f_X7_fact M x2 (2 : Int32)).bind fun (v18 : Int32) =>
      (f_X7_fact M x2 (3 : Int32)).bind fun (v25 : Int32) =>
      (f_X9_birth M x2).bind fun (v32 : Int32) =>
      (f_X9_death M x2).bind fun (v36 : Int32) =>
      (f_X9_addGap M v32 v36 (0 : Int32)).bind fun (M40 : MM) =>
      (f_X9_death M40 x2).bind fun (v45 : Int32) =>
      (f_X9_birth M40 x2).bind fun (v49 : Int32) =>
      (f_X9_addGap M40 v45 v49 (-100 : Int32)).bind fun (M54 : MM) =>
      (if v18 = (-1 : Int32) then
        some M54
      else
        (f_X9_birth M54 v18).bind fun (v64 : Int32) =>
        (f_X9_birth M54 x2).bind fun (v68 : Int32) =>
        (f_X9_addGap M54 v64 v68 (15 : Int32)).bind fun (M73 : MM) =>
        (f_X9_birth M73 x2).bind fun (v78 : Int32) =>
        (f_X9_death M73 v18).bind fun (v82 : Int32) =>
        (f_X9_addGap M73 v78 v82 (-1 : Int32)).bind fun (M86 : MM) =>
        some M86
      ).bind fun (j59 : MM) =>
        (if v25 = (-1 : Int32) then
          some j59
        else
          (f_X9_birth j59 v25).bind fun (v98 : Int32) =>
          (f_X9_birth j59 x2).bind fun (v102 : Int32) =>
          (f_X9_addGap j59 v98 v102 (15 : Int32)).bind fun (M107 : MM) =>
          (f_X9_birth M107 x2).bind fun (v112 : Int32) =>
          (f_X9_birth M107 v25).bind fun (v117 : Int32) =>
          (f_X9_addGap M107 v112 v117 (-50 : Int32)).bind fun (M122 : MM) =>
          (f_X9_birth M122 x2).bind fun (v127 : Int32) =>
          (f_X9_death M122 v25).bind fun (v132 : Int32) =>
          (f_X9_addGap M122 v127 v132 (0 : Int32)).bind fun (M136 : MM) =>
          some M136
        ).bind fun (j92 : MM) =>
          f_X9_layGaps_L7 n j92 (x2 + (1 : Int32))
def f_X9_layGaps (M : MM)  : Option MM :=
  (z_stf M 3 6 (0 : Int32)).bind fun (M2 : MM) =>
  (f_X9_layGaps_L7 FU M2 (0 : Int32)).bind fun (w7 : MM) =>
  some w7
set_option maxRecDepth 100000 in
set_option maxHeartbeats 4000000 in
theorem lp_X9_layGaps_7 {l : Launch} {g : Gx} {x : Cx} (C : zC g x l RX9 cX9_layGaps wX9_layGaps (rmm 2 43) 5) {r : MM} : ∀ (n : Nat) (M : MM) (x2 : Int32) , f_X9_layGaps_L7 n M x2 = some r → zJ g x r 145 [] [] → zJ g x M 7 [(0, .ref (ga g 3)), (1, .ref (ga g 1)), (2, .int x2)] [] := by
  intro n
  induction n with
  | zero =>
    intro M x2 h hj
    exact absurd h (by simp [f_X9_layGaps_L7])
  | succ n ih =>
    intro M x2 h hj
    rw [f_X9_layGaps_L7] at h
    refine z_iload_n C dX9_layGaps_7 rfl ?_
    refine z_aload_n C dX9_layGaps_8 rfl ?_
    obtain ⟨v9, h9, h⟩ := e_bd h
    refine z_callVi (As := []) C (c_X7_people l g h9) rfl O_1 rfl (gcV hsT tw_3_28 cw_X7_people) rfl rfl rfl hy_X7_people rfl ⟨Nat.le_of_ble_eq_true rfl, Nat.le_of_ble_eq_true rfl⟩ (Nat.le_of_ble_eq_true rfl) dX9_layGaps_9 ?_
    refine z_icmp_ge 145 C dX9_layGaps_12 (by decide) (fun hc => ?_) (fun hc => ?_)
    · have h := e_t hc h
      obtain rfl := Option.some.inj h
      exact z_sub [] rfl hj
    · have h := e_f hc h
      refine z_aload_n C dX9_layGaps_15 rfl ?_
      refine z_iload_n C dX9_layGaps_16 rfl ?_
      refine z_iconst (2 : Int32) C dX9_layGaps_17 (by decide) ?_
      obtain ⟨v18, h18, h⟩ := e_bd h
      refine z_callVi (As := [.int x2, .int (2 : Int32)]) C (c_X7_fact l g h18) rfl O_1 rfl (gcV hsT tw_3_33 cw_X7_fact) rfl rfl rfl hy_X7_fact rfl ⟨Nat.le_of_ble_eq_true rfl, Nat.le_of_ble_eq_true rfl⟩ (Nat.le_of_ble_eq_true rfl) dX9_layGaps_18 ?_
      refine z_istore_n [(3, .int v18), (0, .ref (ga g 3)), (1, .ref (ga g 1)), (2, .int x2)] C dX9_layGaps_21 (by decide) rfl ?_
      refine z_aload_n C dX9_layGaps_22 rfl ?_
      refine z_iload_n C dX9_layGaps_23 rfl ?_
      refine z_iconst (3 : Int32) C dX9_layGaps_24 (by decide) ?_
      obtain ⟨v25, h25, h⟩ := e_bd h
      refine z_callVi (As := [.int x2, .int (3 : Int32)]) C (c_X7_fact l g h25) rfl O_1 rfl (gcV hsT tw_3_33 cw_X7_fact) rfl rfl rfl hy_X7_fact rfl ⟨Nat.le_of_ble_eq_true rfl, Nat.le_of_ble_eq_true rfl⟩ (Nat.le_of_ble_eq_true rfl) dX9_layGaps_25 ?_
      refine z_istore [(4, .int v25), (3, .int v18), (0, .ref (ga g 3)), (1, .ref (ga g 1)), (2, .int x2)] C dX9_layGaps_28 (by decide) rfl ?_
      refine z_aload_n C dX9_layGaps_30 rfl ?_
      refine z_iload_n C dX9_layGaps_31 rfl ?_
      obtain ⟨v32, h32, h⟩ := e_bd h
      refine z_callSi (As := [.int x2]) C (c_X9_birth l g h32) rfl (gcS hsT tw_2_111 cw_X9_birth) rfl rfl rfl hy_X9_birth rfl ⟨Nat.le_of_ble_eq_true rfl, Nat.le_of_ble_eq_true rfl⟩ (Nat.le_of_ble_eq_true rfl) dX9_layGaps_32 ?_
      refine z_iload_n C dX9_layGaps_35 rfl ?_
      obtain ⟨v36, h36, h⟩ := e_bd h
      refine z_callSi (As := [.int x2]) C (c_X9_death l g h36) rfl (gcS hsT tw_2_134 cw_X9_death) rfl rfl rfl hy_X9_death rfl ⟨Nat.le_of_ble_eq_true rfl, Nat.le_of_ble_eq_true rfl⟩ (Nat.le_of_ble_eq_true rfl) dX9_layGaps_36 ?_
      refine z_iconst (0 : Int32) C dX9_layGaps_39 (by decide) ?_
      obtain ⟨M40, h40, h⟩ := e_bd h
      refine z_callVv (As := [.int v32, .int v36, .int (0 : Int32)]) C (c_X9_addGap l g h40) rfl O_3 rfl (gcV hsT tw_3_38 cw_X9_addGap) rfl rfl rfl hy_X9_addGap rfl ⟨Nat.le_of_ble_eq_true rfl, Nat.le_of_ble_eq_true rfl⟩ (Nat.le_of_ble_eq_true rfl) dX9_layGaps_40 ?_
      refine z_aload_n C dX9_layGaps_43 rfl ?_
      refine z_iload_n C dX9_layGaps_44 rfl ?_
      obtain ⟨v45, h45, h⟩ := e_bd h
      refine z_callSi (As := [.int x2]) C (c_X9_death l g h45) rfl (gcS hsT tw_2_134 cw_X9_death) rfl rfl rfl hy_X9_death rfl ⟨Nat.le_of_ble_eq_true rfl, Nat.le_of_ble_eq_true rfl⟩ (Nat.le_of_ble_eq_true rfl) dX9_layGaps_45 ?_
      refine z_iload_n C dX9_layGaps_48 rfl ?_
      obtain ⟨v49, h49, h⟩ := e_bd h
      refine z_callSi (As := [.int x2]) C (c_X9_birth l g h49) rfl (gcS hsT tw_2_111 cw_X9_birth) rfl rfl rfl hy_X9_birth rfl ⟨Nat.le_of_ble_eq_true rfl, Nat.le_of_ble_eq_true rfl⟩ (Nat.le_of_ble_eq_true rfl) dX9_layGaps_49 ?_
      refine z_bipush (-100 : Int32) C dX9_layGaps_52 (by decide) ?_
      obtain ⟨M54, h54, h⟩ := e_bd h
      refine z_callVv (As := [.int v45, .int v49, .int (-100 : Int32)]) C (c_X9_addGap l g h54) rfl O_3 rfl (gcV hsT tw_3_38 cw_X9_addGap) rfl rfl rfl hy_X9_addGap rfl ⟨Nat.le_of_ble_eq_true rfl, Nat.le_of_ble_eq_true rfl⟩ (Nat.le_of_ble_eq_true rfl) dX9_layGaps_54 ?_
      refine z_iload_n C dX9_layGaps_57 rfl ?_
      refine z_iconst (-1 : Int32) C dX9_layGaps_58 (by decide) ?_
      obtain ⟨j59, h59, h⟩ := e_bd h
      have hj59 : zJ g x j59 89 [(0, .ref (ga g 3)), (1, .ref (ga g 1)), (2, .int x2), (4, .int v25)] [] := by
        refine z_iload C dX9_layGaps_89 rfl ?_
        refine z_iconst (-1 : Int32) C dX9_layGaps_91 (by decide) ?_
        obtain ⟨j92, h92, h⟩ := e_bd h
        have hj92 : zJ g x j92 139 [(0, .ref (ga g 3)), (1, .ref (ga g 1)), (2, .int x2)] [] := by
          refine z_iinc (v := (x2 + (1 : Int32))) [(2, .int (x2 + (1 : Int32))), (0, .ref (ga g 3)), (1, .ref (ga g 1))] C dX9_layGaps_139 rfl rfl (by decide) rfl ?_
          refine z_goto 7 C dX9_layGaps_142 (by decide) ?_
          refine z_sub [1, 2, 0] rfl ?_
          exact ih _ _ h hj
        have h := h92
        refine z_icmp_eq 139 C dX9_layGaps_92 (by decide) (fun hc => ?_) (fun hc => ?_)
        · have h := e_t hc h
          obtain rfl := Option.some.inj h
          exact z_sub [0, 1, 2] rfl hj92
        · have h := e_f hc h
          refine z_aload_n C dX9_layGaps_95 rfl ?_
          refine z_iload C dX9_layGaps_96 rfl ?_
          obtain ⟨v98, h98, h⟩ := e_bd h
          refine z_callSi (As := [.int v25]) C (c_X9_birth l g h98) rfl (gcS hsT tw_2_111 cw_X9_birth) rfl rfl rfl hy_X9_birth rfl ⟨Nat.le_of_ble_eq_true rfl, Nat.le_of_ble_eq_true rfl⟩ (Nat.le_of_ble_eq_true rfl) dX9_layGaps_98 ?_
          refine z_iload_n C dX9_layGaps_101 rfl ?_
          obtain ⟨v102, h102, h⟩ := e_bd h
          refine z_callSi (As := [.int x2]) C (c_X9_birth l g h102) rfl (gcS hsT tw_2_111 cw_X9_birth) rfl rfl rfl hy_X9_birth rfl ⟨Nat.le_of_ble_eq_true rfl, Nat.le_of_ble_eq_true rfl⟩ (Nat.le_of_ble_eq_true rfl) dX9_layGaps_102 ?_
          refine z_bipush (15 : Int32) C dX9_layGaps_105 (by decide) ?_
          obtain ⟨M107, h107, h⟩ := e_bd h
          refine z_callVv (As := [.int v98, .int v102, .int (15 : Int32)]) C (c_X9_addGap l g h107) rfl O_3 rfl (gcV hsT tw_3_38 cw_X9_addGap) rfl rfl rfl hy_X9_addGap rfl ⟨Nat.le_of_ble_eq_true rfl, Nat.le_of_ble_eq_true rfl⟩ (Nat.le_of_ble_eq_true rfl) dX9_layGaps_107 ?_
          refine z_aload_n C dX9_layGaps_110 rfl ?_
          refine z_iload_n C dX9_layGaps_111 rfl ?_
          obtain ⟨v112, h112, h⟩ := e_bd h
          refine z_callSi (As := [.int x2]) C (c_X9_birth l g h112) rfl (gcS hsT tw_2_111 cw_X9_birth) rfl rfl rfl hy_X9_birth rfl ⟨Nat.le_of_ble_eq_true rfl, Nat.le_of_ble_eq_true rfl⟩ (Nat.le_of_ble_eq_true rfl) dX9_layGaps_112 ?_
          refine z_iload C dX9_layGaps_115 rfl ?_
          obtain ⟨v117, h117, h⟩ := e_bd h
          refine z_callSi (As := [.int v25]) C (c_X9_birth l g h117) rfl (gcS hsT tw_2_111 cw_X9_birth) rfl rfl rfl hy_X9_birth rfl ⟨Nat.le_of_ble_eq_true rfl, Nat.le_of_ble_eq_true rfl⟩ (Nat.le_of_ble_eq_true rfl) dX9_layGaps_117 ?_
          refine z_bipush (-50 : Int32) C dX9_layGaps_120 (by decide) ?_
          obtain ⟨M122, h122, h⟩ := e_bd h
          refine z_callVv (As := [.int v112, .int v117, .int (-50 : Int32)]) C (c_X9_addGap l g h122) rfl O_3 rfl (gcV hsT tw_3_38 cw_X9_addGap) rfl rfl rfl hy_X9_addGap rfl ⟨Nat.le_of_ble_eq_true rfl, Nat.le_of_ble_eq_true rfl⟩ (Nat.le_of_ble_eq_true rfl) dX9_layGaps_122 ?_
          refine z_aload_n C dX9_layGaps_125 rfl ?_
          refine z_iload_n C dX9_layGaps_126 rfl ?_
          obtain ⟨v127, h127, h⟩ := e_bd h
          refine z_callSi (As := [.int x2]) C (c_X9_birth l g h127) rfl (gcS hsT tw_2_111 cw_X9_birth) rfl rfl rfl hy_X9_birth rfl ⟨Nat.le_of_ble_eq_true rfl, Nat.le_of_ble_eq_true rfl⟩ (Nat.le_of_ble_eq_true rfl) dX9_layGaps_127 ?_
          refine z_iload C dX9_layGaps_130 rfl ?_
          obtain ⟨v132, h132, h⟩ := e_bd h
          refine z_callSi (As := [.int v25]) C (c_X9_death l g h132) rfl (gcS hsT tw_2_134 cw_X9_death) rfl rfl rfl hy_X9_death rfl ⟨Nat.le_of_ble_eq_true rfl, Nat.le_of_ble_eq_true rfl⟩ (Nat.le_of_ble_eq_true rfl) dX9_layGaps_132 ?_
          refine z_iconst (0 : Int32) C dX9_layGaps_135 (by decide) ?_
          obtain ⟨M136, h136, h⟩ := e_bd h
          refine z_callVv (As := [.int v127, .int v132, .int (0 : Int32)]) C (c_X9_addGap l g h136) rfl O_3 rfl (gcV hsT tw_3_38 cw_X9_addGap) rfl rfl rfl hy_X9_addGap rfl ⟨Nat.le_of_ble_eq_true rfl, Nat.le_of_ble_eq_true rfl⟩ (Nat.le_of_ble_eq_true rfl) dX9_layGaps_136 ?_
          obtain rfl := Option.some.inj h
          exact z_sub [0, 1, 2] rfl hj92
      have h := h59
      refine z_icmp_eq 89 C dX9_layGaps_59 (by decide) (fun hc => ?_) (fun hc => ?_)
      · have h := e_t hc h
        obtain rfl := Option.some.inj h
        exact z_sub [2, 3, 4, 0] rfl hj59
      · have h := e_f hc h
        refine z_aload_n C dX9_layGaps_62 rfl ?_
        refine z_iload_n C dX9_layGaps_63 rfl ?_
        obtain ⟨v64, h64, h⟩ := e_bd h
        refine z_callSi (As := [.int v18]) C (c_X9_birth l g h64) rfl (gcS hsT tw_2_111 cw_X9_birth) rfl rfl rfl hy_X9_birth rfl ⟨Nat.le_of_ble_eq_true rfl, Nat.le_of_ble_eq_true rfl⟩ (Nat.le_of_ble_eq_true rfl) dX9_layGaps_64 ?_
        refine z_iload_n C dX9_layGaps_67 rfl ?_
        obtain ⟨v68, h68, h⟩ := e_bd h
        refine z_callSi (As := [.int x2]) C (c_X9_birth l g h68) rfl (gcS hsT tw_2_111 cw_X9_birth) rfl rfl rfl hy_X9_birth rfl ⟨Nat.le_of_ble_eq_true rfl, Nat.le_of_ble_eq_true rfl⟩ (Nat.le_of_ble_eq_true rfl) dX9_layGaps_68 ?_
        refine z_bipush (15 : Int32) C dX9_layGaps_71 (by decide) ?_
        obtain ⟨M73, h73, h⟩ := e_bd h
        refine z_callVv (As := [.int v64, .int v68, .int (15 : Int32)]) C (c_X9_addGap l g h73) rfl O_3 rfl (gcV hsT tw_3_38 cw_X9_addGap) rfl rfl rfl hy_X9_addGap rfl ⟨Nat.le_of_ble_eq_true rfl, Nat.le_of_ble_eq_true rfl⟩ (Nat.le_of_ble_eq_true rfl) dX9_layGaps_73 ?_
        refine z_aload_n C dX9_layGaps_76 rfl ?_
        refine z_iload_n C dX9_layGaps_77 rfl ?_
        obtain ⟨v78, h78, h⟩ := e_bd h
        refine z_callSi (As := [.int x2]) C (c_X9_birth l g h78) rfl (gcS hsT tw_2_111 cw_X9_birth) rfl rfl rfl hy_X9_birth rfl ⟨Nat.le_of_ble_eq_true rfl, Nat.le_of_ble_eq_true rfl⟩ (Nat.le_of_ble_eq_true rfl) dX9_layGaps_78 ?_
        refine z_iload_n C dX9_layGaps_81 rfl ?_
        obtain ⟨v82, h82, h⟩ := e_bd h
        refine z_callSi (As := [.int v18]) C (c_X9_death l g h82) rfl (gcS hsT tw_2_134 cw_X9_death) rfl rfl rfl hy_X9_death rfl ⟨Nat.le_of_ble_eq_true rfl, Nat.le_of_ble_eq_true rfl⟩ (Nat.le_of_ble_eq_true rfl) dX9_layGaps_82 ?_
        refine z_iconst (-1 : Int32) C dX9_layGaps_85 (by decide) ?_
        obtain ⟨M86, h86, h⟩ := e_bd h
        refine z_callVv (As := [.int v78, .int v82, .int (-1 : Int32)]) C (c_X9_addGap l g h86) rfl O_3 rfl (gcV hsT tw_3_38 cw_X9_addGap) rfl rfl rfl hy_X9_addGap rfl ⟨Nat.le_of_ble_eq_true rfl, Nat.le_of_ble_eq_true rfl⟩ (Nat.le_of_ble_eq_true rfl) dX9_layGaps_86 ?_
        obtain rfl := Option.some.inj h
        exact z_sub [2, 3, 4, 0] rfl hj59
set_option maxRecDepth 100000 in
set_option maxHeartbeats 4000000 in
theorem c_X9_layGaps (l : Launch) (g : Gx) {M : MM}  {r : MM} (h : f_X9_layGaps M  = some r) : zMv l yX9_layGaps wX9_layGaps (rmm 2 43) [.ref (ga g 3), .ref (ga g 1)] g M r := by
  refine zMv_of (by decide) rfl (Nat.le_of_ble_eq_true rfl) rfl rfl ?_
  intro x C E
  show zJ g x M 0 [(0, .ref (ga g 3)), (1, .ref (ga g 1))] []
  unfold f_X9_layGaps at h
  refine z_aload_n C dX9_layGaps_0 rfl ?_
  refine z_iconst (0 : Int32) C dX9_layGaps_1 (by decide) ?_
  obtain ⟨M2, h2, h⟩ := e_bd h
  refine z_puti tyX9 C O_3 6 O_3_6 rfl (fun _ h9 => hsT _ (inX9 _ h9)) tyX9_ok nmX9 (by decide) rfl (Nat.le_of_ble_eq_true rfl) (hsT _ tw_1_71) dX9_layGaps_2 rfl h2 ?_
  refine z_iconst (0 : Int32) C dX9_layGaps_5 (by decide) ?_
  refine z_istore_n [(2, .int (0 : Int32)), (0, .ref (ga g 3)), (1, .ref (ga g 1))] C dX9_layGaps_6 (by decide) rfl ?_
  obtain ⟨w7, h7, h⟩ := e_bd h
  refine z_sub [1, 2, 0] rfl ?_
  refine lp_X9_layGaps_7 C _ _ _ h7 ?_
  obtain rfl := Option.some.inj h
  exact z_vret C E dX9_layGaps_145
theorem hy_X9_raiseLeast : yX9_raiseLeast.cls = RX9 ∧ yX9_raiseLeast.cls ≠ "java/lang/invoke/MethodHandle" ∧ yX9_raiseLeast.cls ≠ "java/lang/invoke/VarHandle" ∧ (parseMethodDescriptor yX9_raiseLeast.desc).map (fun d => d.parameters.length) = some 0 := by decide +kernel
def wX9_raiseLeast : List Cond := Cond.code yX9_raiseLeast cX9_raiseLeast 5 (some .boolean) :: TB
def f_X9_raiseLeast_L16 : Nat → MM → Int32 → Int32 → Int32 → Option (MM × Int32)
  | 0, _, _, _, _ => none
  | n + 1, M, x1, x2, x3 =>
    if (M 3 6) ≤ x3 then
      some (M, x1)
    else
      (z_ld M 16 112 x3).bind fun (v33 : Int32) =>
      (z_ld M 14 32 v33).bind fun (v34 : Int32) =>
      (z_ld M 18 112 x3).bind fun (v40 : Int32) =>
      (z_ld M 17 112 x3).bind fun (v55 : Int32) =>
      (z_ld M 14 32 v55).bind fun (v56 : Int32) =>
      (if (v34 + v40) ≤ v56 then
        some (M, x1)
      else
        (z_ld M 17 112 x3).bind fun (v69 : Int32) =>
        (z_sto M 14 32 v69 (v34 + v40)).bind fun (M72 : MM) =>
        some (M72, (1 : Int32))
      ).bind fun (j57 : MM × Int32) =>
        f_X9_raiseLeast_L16 n j57.1 j57.2 x2 (x3 + (1 : Int32))
def f_X9_raiseLeast_L4 : Nat → MM → Int32 → Int32 → Option ((Int32 × MM))
  | 0, _, _, _ => none
  | n + 1, M, x1, x2 =>
    if (M 3 5) ≤ x2 then
      if x1 = 0 then
        z_rz (1 : Int32) M
      else
        z_rz (0 : Int32) M
    else
      (f_X9_raiseLeast_L16 FU M (0 : Int32) x2 (0 : Int32)).bind fun (w16 : MM × Int32) =>
      if w16.2 = 0 then
        z_rz (1 : Int32) w16.1
      else
        f_X9_raiseLeast_L4 n w16.1 w16.2 (x2 + (1 : Int32))
def f_X9_raiseLeast (M : MM)  : Option (Int32 × MM) :=
  f_X9_raiseLeast_L4 FU M (0 : Int32) (0 : Int32)
set_option maxRecDepth 100000 in
set_option maxHeartbeats 4000000 in
theorem lp_X9_raiseLeast_16 {l : Launch} {g : Gx} {x : Cx} (C : zC g x l RX9 cX9_raiseLeast wX9_raiseLeast (rmm 0 0) 5) {r : MM × Int32} : ∀ (n : Nat) (M : MM) (x1 x2 x3 : Int32) , f_X9_raiseLeast_L16 n M x1 x2 x3 = some r → zJ g x r.1 81 [(0, .ref (ga g 3)), (1, .int r.2), (2, .int x2)] [] → zJ g x M 16 [(0, .ref (ga g 3)), (1, .int x1), (2, .int x2), (3, .int x3)] [] := by
  intro n
  induction n with
  | zero =>
    intro M x1 x2 x3 h hj
    exact absurd h (by simp [f_X9_raiseLeast_L16])
  | succ n ih =>
    intro M x1 x2 x3 h hj
    rw [f_X9_raiseLeast_L16] at h
    refine z_iload_n C dX9_raiseLeast_16 rfl ?_
    refine z_aload_n C dX9_raiseLeast_17 rfl ?_
    refine z_get C O_3 6 rfl (fun _ h9 => hsT _ (inX9 _ h9)) (by decide) (hsT _ tw_1_71) dX9_raiseLeast_18 rfl ?_
    refine z_icmp_ge 81 C dX9_raiseLeast_21 (by decide) (fun hc => ?_) (fun hc => ?_)
    · have h := e_t hc h
      obtain rfl := Option.some.inj h
      exact z_sub [0, 1, 2] rfl hj
    · have h := e_f hc h
      refine z_aload_n C dX9_raiseLeast_24 rfl ?_
      refine z_get C O_3 0 rfl (fun _ h9 => hsT _ (inX9 _ h9)) (by decide) (hsT _ tw_1_65) dX9_raiseLeast_25 rfl ?_
      refine z_aload_n C dX9_raiseLeast_28 rfl ?_
      refine z_get C O_3 2 rfl (fun _ h9 => hsT _ (inX9 _ h9)) (by decide) (hsT _ tw_1_67) dX9_raiseLeast_29 rfl ?_
      refine z_iload_n C dX9_raiseLeast_32 rfl ?_
      obtain ⟨v33, h33, h⟩ := e_bd h
      refine z_iald C I_16 h33 dX9_raiseLeast_33 ?_
      obtain ⟨v34, h34, h⟩ := e_bd h
      refine z_iald C I_14 h34 dX9_raiseLeast_34 ?_
      refine z_aload_n C dX9_raiseLeast_35 rfl ?_
      refine z_get C O_3 4 rfl (fun _ h9 => hsT _ (inX9 _ h9)) (by decide) (hsT _ tw_1_69) dX9_raiseLeast_36 rfl ?_
      refine z_iload_n C dX9_raiseLeast_39 rfl ?_
      obtain ⟨v40, h40, h⟩ := e_bd h
      refine z_iald C I_18 h40 dX9_raiseLeast_40 ?_
      refine z_iadd C dX9_raiseLeast_41 ?_
      refine z_istore [(4, .int (v34 + v40)), (0, .ref (ga g 3)), (1, .int x1), (2, .int x2), (3, .int x3)] C dX9_raiseLeast_42 (by decide) rfl ?_
      refine z_iload C dX9_raiseLeast_44 rfl ?_
      refine z_aload_n C dX9_raiseLeast_46 rfl ?_
      refine z_get C O_3 0 rfl (fun _ h9 => hsT _ (inX9 _ h9)) (by decide) (hsT _ tw_1_65) dX9_raiseLeast_47 rfl ?_
      refine z_aload_n C dX9_raiseLeast_50 rfl ?_
      refine z_get C O_3 3 rfl (fun _ h9 => hsT _ (inX9 _ h9)) (by decide) (hsT _ tw_1_68) dX9_raiseLeast_51 rfl ?_
      refine z_iload_n C dX9_raiseLeast_54 rfl ?_
      obtain ⟨v55, h55, h⟩ := e_bd h
      refine z_iald C I_17 h55 dX9_raiseLeast_55 ?_
      obtain ⟨v56, h56, h⟩ := e_bd h
      refine z_iald C I_14 h56 dX9_raiseLeast_56 ?_
      obtain ⟨j57, h57, h⟩ := e_bd h
      have hj57 : zJ g x j57.1 75 [(0, .ref (ga g 3)), (1, .int j57.2), (2, .int x2), (3, .int x3)] [] := by
        refine z_iinc (v := (x3 + (1 : Int32))) [(3, .int (x3 + (1 : Int32))), (0, .ref (ga g 3)), (1, .int j57.2), (2, .int x2)] C dX9_raiseLeast_75 rfl rfl (by decide) rfl ?_
        refine z_goto 16 C dX9_raiseLeast_78 (by decide) ?_
        refine z_sub [1, 2, 3, 0] rfl ?_
        exact ih _ _ _ _ h hj
      have h := h57
      refine z_icmp_le 75 C dX9_raiseLeast_57 (by decide) (fun hc => ?_) (fun hc => ?_)
      · have h := e_t hc h
        obtain rfl := Option.some.inj h
        exact z_sub [1, 2, 3, 4] rfl hj57
      · have h := e_f hc h
        refine z_aload_n C dX9_raiseLeast_60 rfl ?_
        refine z_get C O_3 0 rfl (fun _ h9 => hsT _ (inX9 _ h9)) (by decide) (hsT _ tw_1_65) dX9_raiseLeast_61 rfl ?_
        refine z_aload_n C dX9_raiseLeast_64 rfl ?_
        refine z_get C O_3 3 rfl (fun _ h9 => hsT _ (inX9 _ h9)) (by decide) (hsT _ tw_1_68) dX9_raiseLeast_65 rfl ?_
        refine z_iload_n C dX9_raiseLeast_68 rfl ?_
        obtain ⟨v69, h69, h⟩ := e_bd h
        refine z_iald C I_17 h69 dX9_raiseLeast_69 ?_
        refine z_iload C dX9_raiseLeast_70 rfl ?_
        obtain ⟨M72, h72, h⟩ := e_bd h
        refine z_iast C I_14 h72 dX9_raiseLeast_72 ?_
        refine z_iconst (1 : Int32) C dX9_raiseLeast_73 (by decide) ?_
        refine z_istore_n [(1, .int (1 : Int32)), (4, .int (v34 + v40)), (0, .ref (ga g 3)), (2, .int x2), (3, .int x3)] C dX9_raiseLeast_74 (by decide) rfl ?_
        obtain rfl := Option.some.inj h
        exact z_sub [2, 0, 3, 4] rfl hj57
set_option maxRecDepth 100000 in
set_option maxHeartbeats 4000000 in
theorem lp_X9_raiseLeast_4 {l : Launch} {g : Gx} {x : Cx} (C : zC g x l RX9 cX9_raiseLeast wX9_raiseLeast (rmm 0 0) 5) {r : (Int32 × MM)} : ∀ (n : Nat) (M : MM) (x1 x2 : Int32) , f_X9_raiseLeast_L4 n M x1 x2 = some r → zRi g x .boolean r.1 r.2 → zJ g x M 4 [(0, .ref (ga g 3)), (1, .int x1), (2, .int x2)] [] := by
  intro n
  induction n with
  | zero =>
    intro M x1 x2 h E
    exact absurd h (by simp [f_X9_raiseLeast_L4])
  | succ n ih =>
    intro M x1 x2 h E
    rw [f_X9_raiseLeast_L4] at h
    refine z_iload_n C dX9_raiseLeast_4 rfl ?_
    refine z_aload_n C dX9_raiseLeast_5 rfl ?_
    refine z_get C O_3 5 rfl (fun _ h9 => hsT _ (inX9 _ h9)) (by decide) (hsT _ tw_1_70) dX9_raiseLeast_6 rfl ?_
    refine z_icmp_ge 93 C dX9_raiseLeast_9 (by decide) (fun hc => ?_) (fun hc => ?_)
    · have h := e_t hc h
      refine z_iload_n C dX9_raiseLeast_93 rfl ?_
      refine z_if_ne 101 C dX9_raiseLeast_94 (by decide) (fun hc => ?_) (fun hc => ?_)
      · have h := e_f hc h
        refine z_iconst (0 : Int32) C dX9_raiseLeast_101 (by decide) ?_
        obtain ⟨hz, rfl⟩ := e_rz2 h
        exact z_zret C E hz dX9_raiseLeast_102
      · have h := e_t hc h
        refine z_iconst (1 : Int32) C dX9_raiseLeast_97 (by decide) ?_
        refine z_goto 102 C dX9_raiseLeast_98 (by decide) ?_
        obtain ⟨hz, rfl⟩ := e_rz2 h
        exact z_zret C E hz dX9_raiseLeast_102
    · have h := e_f hc h
      refine z_iconst (0 : Int32) C dX9_raiseLeast_12 (by decide) ?_
      refine z_istore_n [(1, .int (0 : Int32)), (0, .ref (ga g 3)), (2, .int x2)] C dX9_raiseLeast_13 (by decide) rfl ?_
      refine z_iconst (0 : Int32) C dX9_raiseLeast_14 (by decide) ?_
      refine z_istore_n [(3, .int (0 : Int32)), (1, .int (0 : Int32)), (0, .ref (ga g 3)), (2, .int x2)] C dX9_raiseLeast_15 (by decide) rfl ?_
      obtain ⟨w16, h16, h⟩ := e_bd h
      refine z_sub [2, 1, 3, 0] rfl ?_
      refine lp_X9_raiseLeast_16 C _ _ _ _ _ h16 ?_
      refine z_iload_n C dX9_raiseLeast_81 rfl ?_
      refine z_if_ne 87 C dX9_raiseLeast_82 (by decide) (fun hc => ?_) (fun hc => ?_)
      · have h := e_f hc h
        refine z_iinc (v := (x2 + (1 : Int32))) [(2, .int (x2 + (1 : Int32))), (0, .ref (ga g 3)), (1, .int w16.2)] C dX9_raiseLeast_87 rfl rfl (by decide) rfl ?_
        refine z_goto 4 C dX9_raiseLeast_90 (by decide) ?_
        refine z_sub [1, 2, 0] rfl ?_
        exact ih _ _ _ h E
      · have h := e_t hc h
        refine z_iconst (1 : Int32) C dX9_raiseLeast_85 (by decide) ?_
        obtain ⟨hz, rfl⟩ := e_rz2 h
        exact z_zret C E hz dX9_raiseLeast_86
set_option maxRecDepth 100000 in
set_option maxHeartbeats 4000000 in
theorem c_X9_raiseLeast (l : Launch) (g : Gx) {M : MM}  {r : Int32 × MM} (h : f_X9_raiseLeast M  = some r) : zMi l yX9_raiseLeast wX9_raiseLeast (rmm 0 0) [.ref (ga g 3)] g M r.1 r.2 := by
  refine zMi_of .boolean (by decide) rfl (Nat.le_of_ble_eq_true rfl) rfl rfl ?_
  intro x C E
  show zJ g x M 0 [(0, .ref (ga g 3))] []
  unfold f_X9_raiseLeast at h
  refine z_iconst (0 : Int32) C dX9_raiseLeast_0 (by decide) ?_
  refine z_istore_n [(1, .int (0 : Int32)), (0, .ref (ga g 3))] C dX9_raiseLeast_1 (by decide) rfl ?_
  refine z_iconst (0 : Int32) C dX9_raiseLeast_2 (by decide) ?_
  refine z_istore_n [(2, .int (0 : Int32)), (1, .int (0 : Int32)), (0, .ref (ga g 3))] C dX9_raiseLeast_3 (by decide) rfl ?_
  refine z_sub [2, 1, 0] rfl ?_
  exact lp_X9_raiseLeast_4 C _ _ _ _ h E
theorem hy_X9_isCrossed : yX9_isCrossed.cls = RX9 ∧ yX9_isCrossed.cls ≠ "java/lang/invoke/MethodHandle" ∧ yX9_isCrossed.cls ≠ "java/lang/invoke/VarHandle" ∧ (parseMethodDescriptor yX9_isCrossed.desc).map (fun d => d.parameters.length) = some 0 := by decide +kernel
def wX9_isCrossed : List Cond := Cond.code yX9_isCrossed cX9_isCrossed 2 (some .boolean) :: TB
def f_X9_isCrossed_L2 : Nat → MM → Int32 → Option (Int32)
  | 0, _, _ => none
  | n + 1, M, x1 =>
    if (M 3 5) ≤ x1 then
      z_rzp (0 : Int32)
    else
      (z_ld M 14 32 x1).bind fun (v15 : Int32) =>
      (z_ld M 15 32 x1).bind fun (v21 : Int32) =>
      if v15 ≤ v21 then
        f_X9_isCrossed_L2 n M (x1 + (1 : Int32))
      else
        z_rzp (1 : Int32)
def f_X9_isCrossed (M : MM)  : Option Int32 :=
  f_X9_isCrossed_L2 FU M (0 : Int32)
set_option maxRecDepth 100000 in
set_option maxHeartbeats 4000000 in
theorem lp_X9_isCrossed_2 {l : Launch} {g : Gx} {x : Cx} (C : zC g x l RX9 cX9_isCrossed wX9_isCrossed (rmm 0 0) 2) {r : Int32} : ∀ (n : Nat) (M : MM) (x1 : Int32) , f_X9_isCrossed_L2 n M x1 = some r → zRi g x .boolean r M → zJ g x M 2 [(0, .ref (ga g 3)), (1, .int x1)] [] := by
  intro n
  induction n with
  | zero =>
    intro M x1 h E
    exact absurd h (by simp [f_X9_isCrossed_L2])
  | succ n ih =>
    intro M x1 h E
    rw [f_X9_isCrossed_L2] at h
    refine z_iload_n C dX9_isCrossed_2 rfl ?_
    refine z_aload_n C dX9_isCrossed_3 rfl ?_
    refine z_get C O_3 5 rfl (fun _ h9 => hsT _ (inX9 _ h9)) (by decide) (hsT _ tw_1_70) dX9_isCrossed_4 rfl ?_
    refine z_icmp_ge 33 C dX9_isCrossed_7 (by decide) (fun hc => ?_) (fun hc => ?_)
    · have h := e_t hc h
      refine z_iconst (0 : Int32) C dX9_isCrossed_33 (by decide) ?_
      obtain ⟨hz, rfl⟩ := e_rzp h
      exact z_zret C E hz dX9_isCrossed_34
    · have h := e_f hc h
      refine z_aload_n C dX9_isCrossed_10 rfl ?_
      refine z_get C O_3 0 rfl (fun _ h9 => hsT _ (inX9 _ h9)) (by decide) (hsT _ tw_1_65) dX9_isCrossed_11 rfl ?_
      refine z_iload_n C dX9_isCrossed_14 rfl ?_
      obtain ⟨v15, h15, h⟩ := e_bd h
      refine z_iald C I_14 h15 dX9_isCrossed_15 ?_
      refine z_aload_n C dX9_isCrossed_16 rfl ?_
      refine z_get C O_3 1 rfl (fun _ h9 => hsT _ (inX9 _ h9)) (by decide) (hsT _ tw_1_66) dX9_isCrossed_17 rfl ?_
      refine z_iload_n C dX9_isCrossed_20 rfl ?_
      obtain ⟨v21, h21, h⟩ := e_bd h
      refine z_iald C I_15 h21 dX9_isCrossed_21 ?_
      refine z_icmp_le 27 C dX9_isCrossed_22 (by decide) (fun hc => ?_) (fun hc => ?_)
      · have h := e_t hc h
        refine z_iinc (v := (x1 + (1 : Int32))) [(1, .int (x1 + (1 : Int32))), (0, .ref (ga g 3))] C dX9_isCrossed_27 rfl rfl (by decide) rfl ?_
        refine z_goto 2 C dX9_isCrossed_30 (by decide) ?_
        refine z_sub [1, 0] rfl ?_
        exact ih _ _ h E
      · have h := e_f hc h
        refine z_iconst (1 : Int32) C dX9_isCrossed_25 (by decide) ?_
        obtain ⟨hz, rfl⟩ := e_rzp h
        exact z_zret C E hz dX9_isCrossed_26
set_option maxRecDepth 100000 in
set_option maxHeartbeats 4000000 in
theorem c_X9_isCrossed (l : Launch) (g : Gx) {M : MM}  {r : Int32} (h : f_X9_isCrossed M  = some r) : zMi l yX9_isCrossed wX9_isCrossed (rmm 0 0) [.ref (ga g 3)] g M r M := by
  refine zMi_of .boolean (by decide) rfl (Nat.le_of_ble_eq_true rfl) rfl rfl ?_
  intro x C E
  show zJ g x M 0 [(0, .ref (ga g 3))] []
  unfold f_X9_isCrossed at h
  refine z_iconst (0 : Int32) C dX9_isCrossed_0 (by decide) ?_
  refine z_istore_n [(1, .int (0 : Int32)), (0, .ref (ga g 3))] C dX9_isCrossed_1 (by decide) rfl ?_
  refine z_sub [1, 0] rfl ?_
  exact lp_X9_isCrossed_2 C _ _ _ h E
theorem hy_X9_lowerGreatest : yX9_lowerGreatest.cls = RX9 ∧ yX9_lowerGreatest.cls ≠ "java/lang/invoke/MethodHandle" ∧ yX9_lowerGreatest.cls ≠ "java/lang/invoke/VarHandle" ∧ (parseMethodDescriptor yX9_lowerGreatest.desc).map (fun d => d.parameters.length) = some 0 := by decide +kernel
def wX9_lowerGreatest : List Cond := Cond.code yX9_lowerGreatest cX9_lowerGreatest 5 none :: TB
def f_X9_lowerGreatest_L20 : Nat → MM → Int32 → Int32 → Int32 → Option (MM × Int32)
  | 0, _, _, _, _ => none
  | n + 1, M, x1, x2, x3 =>
    if (M 3 6) ≤ x3 then
      some (M, x1)
    else
      (z_ld M 17 112 x3).bind fun (v37 : Int32) =>
      (z_ld M 15 32 v37).bind fun (v38 : Int32) =>
      (z_ld M 18 112 x3).bind fun (v44 : Int32) =>
      (z_ld M 16 112 x3).bind fun (v59 : Int32) =>
      (z_ld M 15 32 v59).bind fun (v60 : Int32) =>
      (if v60 ≤ (v38 - v44) then
        some (M, x1)
      else
        (z_ld M 16 112 x3).bind fun (v73 : Int32) =>
        (z_sto M 15 32 v73 (v38 - v44)).bind fun (M76 : MM) =>
        some (M76, (1 : Int32))
      ).bind fun (j61 : MM × Int32) =>
        f_X9_lowerGreatest_L20 n j61.1 j61.2 x2 (x3 + (1 : Int32))
def f_X9_lowerGreatest_L4 : Nat → MM → Int32 → Int32 → Option (MM)
  | 0, _, _, _ => none
  | n + 1, M, x1, x2 =>
    if (M 3 5) ≤ x2 then
      some M
    else
      if x1 = 0 then
        some M
      else
        (f_X9_lowerGreatest_L20 FU M (0 : Int32) x2 (0 : Int32)).bind fun (w20 : MM × Int32) =>
        f_X9_lowerGreatest_L4 n w20.1 w20.2 (x2 + (1 : Int32))
def f_X9_lowerGreatest (M : MM)  : Option MM :=
  (f_X9_lowerGreatest_L4 FU M (1 : Int32) (0 : Int32)).bind fun (w4 : MM) =>
  some w4
set_option maxRecDepth 100000 in
set_option maxHeartbeats 4000000 in
theorem lp_X9_lowerGreatest_20 {l : Launch} {g : Gx} {x : Cx} (C : zC g x l RX9 cX9_lowerGreatest wX9_lowerGreatest (rmm 0 0) 5) {r : MM × Int32} : ∀ (n : Nat) (M : MM) (x1 x2 x3 : Int32) , f_X9_lowerGreatest_L20 n M x1 x2 x3 = some r → zJ g x r.1 85 [(0, .ref (ga g 3)), (1, .int r.2), (2, .int x2)] [] → zJ g x M 20 [(0, .ref (ga g 3)), (1, .int x1), (2, .int x2), (3, .int x3)] [] := by
  intro n
  induction n with
  | zero =>
    intro M x1 x2 x3 h hj
    exact absurd h (by simp [f_X9_lowerGreatest_L20])
  | succ n ih =>
    intro M x1 x2 x3 h hj
    rw [f_X9_lowerGreatest_L20] at h
    refine z_iload_n C dX9_lowerGreatest_20 rfl ?_
    refine z_aload_n C dX9_lowerGreatest_21 rfl ?_
    refine z_get C O_3 6 rfl (fun _ h9 => hsT _ (inX9 _ h9)) (by decide) (hsT _ tw_1_71) dX9_lowerGreatest_22 rfl ?_
    refine z_icmp_ge 85 C dX9_lowerGreatest_25 (by decide) (fun hc => ?_) (fun hc => ?_)
    · have h := e_t hc h
      obtain rfl := Option.some.inj h
      exact z_sub [0, 1, 2] rfl hj
    · have h := e_f hc h
      refine z_aload_n C dX9_lowerGreatest_28 rfl ?_
      refine z_get C O_3 1 rfl (fun _ h9 => hsT _ (inX9 _ h9)) (by decide) (hsT _ tw_1_66) dX9_lowerGreatest_29 rfl ?_
      refine z_aload_n C dX9_lowerGreatest_32 rfl ?_
      refine z_get C O_3 3 rfl (fun _ h9 => hsT _ (inX9 _ h9)) (by decide) (hsT _ tw_1_68) dX9_lowerGreatest_33 rfl ?_
      refine z_iload_n C dX9_lowerGreatest_36 rfl ?_
      obtain ⟨v37, h37, h⟩ := e_bd h
      refine z_iald C I_17 h37 dX9_lowerGreatest_37 ?_
      obtain ⟨v38, h38, h⟩ := e_bd h
      refine z_iald C I_15 h38 dX9_lowerGreatest_38 ?_
      refine z_aload_n C dX9_lowerGreatest_39 rfl ?_
      refine z_get C O_3 4 rfl (fun _ h9 => hsT _ (inX9 _ h9)) (by decide) (hsT _ tw_1_69) dX9_lowerGreatest_40 rfl ?_
      refine z_iload_n C dX9_lowerGreatest_43 rfl ?_
      obtain ⟨v44, h44, h⟩ := e_bd h
      refine z_iald C I_18 h44 dX9_lowerGreatest_44 ?_
      refine z_isub C dX9_lowerGreatest_45 ?_
      refine z_istore [(4, .int (v38 - v44)), (0, .ref (ga g 3)), (1, .int x1), (2, .int x2), (3, .int x3)] C dX9_lowerGreatest_46 (by decide) rfl ?_
      refine z_iload C dX9_lowerGreatest_48 rfl ?_
      refine z_aload_n C dX9_lowerGreatest_50 rfl ?_
      refine z_get C O_3 1 rfl (fun _ h9 => hsT _ (inX9 _ h9)) (by decide) (hsT _ tw_1_66) dX9_lowerGreatest_51 rfl ?_
      refine z_aload_n C dX9_lowerGreatest_54 rfl ?_
      refine z_get C O_3 2 rfl (fun _ h9 => hsT _ (inX9 _ h9)) (by decide) (hsT _ tw_1_67) dX9_lowerGreatest_55 rfl ?_
      refine z_iload_n C dX9_lowerGreatest_58 rfl ?_
      obtain ⟨v59, h59, h⟩ := e_bd h
      refine z_iald C I_16 h59 dX9_lowerGreatest_59 ?_
      obtain ⟨v60, h60, h⟩ := e_bd h
      refine z_iald C I_15 h60 dX9_lowerGreatest_60 ?_
      obtain ⟨j61, h61, h⟩ := e_bd h
      have hj61 : zJ g x j61.1 79 [(0, .ref (ga g 3)), (1, .int j61.2), (2, .int x2), (3, .int x3)] [] := by
        refine z_iinc (v := (x3 + (1 : Int32))) [(3, .int (x3 + (1 : Int32))), (0, .ref (ga g 3)), (1, .int j61.2), (2, .int x2)] C dX9_lowerGreatest_79 rfl rfl (by decide) rfl ?_
        refine z_goto 20 C dX9_lowerGreatest_82 (by decide) ?_
        refine z_sub [1, 2, 3, 0] rfl ?_
        exact ih _ _ _ _ h hj
      have h := h61
      refine z_icmp_ge 79 C dX9_lowerGreatest_61 (by decide) (fun hc => ?_) (fun hc => ?_)
      · have h := e_t hc h
        obtain rfl := Option.some.inj h
        exact z_sub [1, 2, 3, 4] rfl hj61
      · have h := e_f hc h
        refine z_aload_n C dX9_lowerGreatest_64 rfl ?_
        refine z_get C O_3 1 rfl (fun _ h9 => hsT _ (inX9 _ h9)) (by decide) (hsT _ tw_1_66) dX9_lowerGreatest_65 rfl ?_
        refine z_aload_n C dX9_lowerGreatest_68 rfl ?_
        refine z_get C O_3 2 rfl (fun _ h9 => hsT _ (inX9 _ h9)) (by decide) (hsT _ tw_1_67) dX9_lowerGreatest_69 rfl ?_
        refine z_iload_n C dX9_lowerGreatest_72 rfl ?_
        obtain ⟨v73, h73, h⟩ := e_bd h
        refine z_iald C I_16 h73 dX9_lowerGreatest_73 ?_
        refine z_iload C dX9_lowerGreatest_74 rfl ?_
        obtain ⟨M76, h76, h⟩ := e_bd h
        refine z_iast C I_15 h76 dX9_lowerGreatest_76 ?_
        refine z_iconst (1 : Int32) C dX9_lowerGreatest_77 (by decide) ?_
        refine z_istore_n [(1, .int (1 : Int32)), (4, .int (v38 - v44)), (0, .ref (ga g 3)), (2, .int x2), (3, .int x3)] C dX9_lowerGreatest_78 (by decide) rfl ?_
        obtain rfl := Option.some.inj h
        exact z_sub [2, 0, 3, 4] rfl hj61
set_option maxRecDepth 100000 in
set_option maxHeartbeats 4000000 in
theorem lp_X9_lowerGreatest_4 {l : Launch} {g : Gx} {x : Cx} (C : zC g x l RX9 cX9_lowerGreatest wX9_lowerGreatest (rmm 0 0) 5) {r : MM} : ∀ (n : Nat) (M : MM) (x1 x2 : Int32) , f_X9_lowerGreatest_L4 n M x1 x2 = some r → zJ g x r 91 [] [] → zJ g x M 4 [(0, .ref (ga g 3)), (1, .int x1), (2, .int x2)] [] := by
  intro n
  induction n with
  | zero =>
    intro M x1 x2 h hj
    exact absurd h (by simp [f_X9_lowerGreatest_L4])
  | succ n ih =>
    intro M x1 x2 h hj
    rw [f_X9_lowerGreatest_L4] at h
    refine z_iload_n C dX9_lowerGreatest_4 rfl ?_
    refine z_aload_n C dX9_lowerGreatest_5 rfl ?_
    refine z_get C O_3 5 rfl (fun _ h9 => hsT _ (inX9 _ h9)) (by decide) (hsT _ tw_1_70) dX9_lowerGreatest_6 rfl ?_
    refine z_icmp_ge 91 C dX9_lowerGreatest_9 (by decide) (fun hc => ?_) (fun hc => ?_)
    · have h := e_t hc h
      obtain rfl := Option.some.inj h
      exact z_sub [] rfl hj
    · have h := e_f hc h
      refine z_iload_n C dX9_lowerGreatest_12 rfl ?_
      refine z_if_eq 91 C dX9_lowerGreatest_13 (by decide) (fun hc => ?_) (fun hc => ?_)
      · have h := e_t hc h
        obtain rfl := Option.some.inj h
        exact z_sub [] rfl hj
      · have h := e_f hc h
        refine z_iconst (0 : Int32) C dX9_lowerGreatest_16 (by decide) ?_
        refine z_istore_n [(1, .int (0 : Int32)), (0, .ref (ga g 3)), (2, .int x2)] C dX9_lowerGreatest_17 (by decide) rfl ?_
        refine z_iconst (0 : Int32) C dX9_lowerGreatest_18 (by decide) ?_
        refine z_istore_n [(3, .int (0 : Int32)), (1, .int (0 : Int32)), (0, .ref (ga g 3)), (2, .int x2)] C dX9_lowerGreatest_19 (by decide) rfl ?_
        obtain ⟨w20, h20, h⟩ := e_bd h
        refine z_sub [2, 1, 3, 0] rfl ?_
        refine lp_X9_lowerGreatest_20 C _ _ _ _ _ h20 ?_
        refine z_iinc (v := (x2 + (1 : Int32))) [(2, .int (x2 + (1 : Int32))), (0, .ref (ga g 3)), (1, .int w20.2)] C dX9_lowerGreatest_85 rfl rfl (by decide) rfl ?_
        refine z_goto 4 C dX9_lowerGreatest_88 (by decide) ?_
        refine z_sub [1, 2, 0] rfl ?_
        exact ih _ _ _ h hj
set_option maxRecDepth 100000 in
set_option maxHeartbeats 4000000 in
theorem c_X9_lowerGreatest (l : Launch) (g : Gx) {M : MM}  {r : MM} (h : f_X9_lowerGreatest M  = some r) : zMv l yX9_lowerGreatest wX9_lowerGreatest (rmm 0 0) [.ref (ga g 3)] g M r := by
  refine zMv_of (by decide) rfl (Nat.le_of_ble_eq_true rfl) rfl rfl ?_
  intro x C E
  show zJ g x M 0 [(0, .ref (ga g 3))] []
  unfold f_X9_lowerGreatest at h
  refine z_iconst (1 : Int32) C dX9_lowerGreatest_0 (by decide) ?_
  refine z_istore_n [(1, .int (1 : Int32)), (0, .ref (ga g 3))] C dX9_lowerGreatest_1 (by decide) rfl ?_
  refine z_iconst (0 : Int32) C dX9_lowerGreatest_2 (by decide) ?_
  refine z_istore_n [(2, .int (0 : Int32)), (1, .int (1 : Int32)), (0, .ref (ga g 3))] C dX9_lowerGreatest_3 (by decide) rfl ?_
  obtain ⟨w4, h4, h⟩ := e_bd h
  refine z_sub [2, 1, 0] rfl ?_
  refine lp_X9_lowerGreatest_4 C _ _ _ _ h4 ?_
  obtain rfl := Option.some.inj h
  exact z_vret C E dX9_lowerGreatest_91
theorem hy_X9_reckon : yX9_reckon.cls = RX9 ∧ yX9_reckon.cls ≠ "java/lang/invoke/MethodHandle" ∧ yX9_reckon.cls ≠ "java/lang/invoke/VarHandle" ∧ (parseMethodDescriptor yX9_reckon.desc).map (fun d => d.parameters.length) = some 1 := by decide +kernel
def wX9_reckon : List Cond := Cond.code yX9_reckon cX9_reckon 2 none :: TB
def f_X9_reckon (M : MM)  : Option MM :=
  (f_X7_people M ).bind fun (v3 : Int32) =>
  (z_stf M 3 5 ((2 : Int32) * v3)).bind fun (M7 : MM) =>
  (f_X9_layBounds M7 ).bind fun (M12 : MM) =>
  (f_X9_layGaps M12 ).bind fun (M17 : MM) =>
  (f_X9_raiseLeast M17 ).bind fun (s22 : Int32 × MM) =>
  (if s22.1 = 0 then
    some (1 : Int32)
  else
    (f_X9_isCrossed s22.2 ).bind fun (v29 : Int32) =>
    if v29 = 0 then
      some (0 : Int32)
    else
      some (1 : Int32)
  ).bind fun (j25 : Int32) =>
    (z_stb s22.2 3 7 j25).bind fun (M40 : MM) =>
    (if (M40 3 7) = 0 then
      (f_X9_lowerGreatest M40 ).bind fun (M51 : MM) =>
      some M51
    else
      some M40
    ).bind fun (j47 : MM) =>
      some j47
set_option maxRecDepth 100000 in
set_option maxHeartbeats 4000000 in
theorem c_X9_reckon (l : Launch) (g : Gx) {M : MM}  {r : MM} (h : f_X9_reckon M  = some r) : zMv l yX9_reckon wX9_reckon (rmm 3 67) [.ref (ga g 3), .ref (ga g 1)] g M r := by
  refine zMv_of (by decide) rfl (Nat.le_of_ble_eq_true rfl) rfl rfl ?_
  intro x C E
  show zJ g x M 0 [(0, .ref (ga g 3)), (1, .ref (ga g 1))] []
  unfold f_X9_reckon at h
  refine z_aload_n C dX9_reckon_0 rfl ?_
  refine z_iconst (2 : Int32) C dX9_reckon_1 (by decide) ?_
  refine z_aload_n C dX9_reckon_2 rfl ?_
  obtain ⟨v3, h3, h⟩ := e_bd h
  refine z_callVi (As := []) C (c_X7_people l g h3) rfl O_1 rfl (gcV hsT tw_3_28 cw_X7_people) rfl rfl rfl hy_X7_people rfl ⟨Nat.le_of_ble_eq_true rfl, Nat.le_of_ble_eq_true rfl⟩ (Nat.le_of_ble_eq_true rfl) dX9_reckon_3 ?_
  refine z_imul C dX9_reckon_6 ?_
  obtain ⟨M7, h7, h⟩ := e_bd h
  refine z_puti tyX9 C O_3 5 O_3_5 rfl (fun _ h9 => hsT _ (inX9 _ h9)) tyX9_ok nmX9 (by decide) rfl (Nat.le_of_ble_eq_true rfl) (hsT _ tw_1_70) dX9_reckon_7 rfl h7 ?_
  refine z_aload_n C dX9_reckon_10 rfl ?_
  refine z_aload_n C dX9_reckon_11 rfl ?_
  obtain ⟨M12, h12, h⟩ := e_bd h
  refine z_callVv (As := [.ref (ga g 1)]) C (c_X9_layBounds l g h12) rfl O_3 rfl (gcV hsT tw_3_29 cw_X9_layBounds) rfl rfl rfl hy_X9_layBounds rfl ⟨Nat.le_of_ble_eq_true rfl, Nat.le_of_ble_eq_true rfl⟩ (Nat.le_of_ble_eq_true rfl) dX9_reckon_12 ?_
  refine z_aload_n C dX9_reckon_15 rfl ?_
  refine z_aload_n C dX9_reckon_16 rfl ?_
  obtain ⟨M17, h17, h⟩ := e_bd h
  refine z_callVv (As := [.ref (ga g 1)]) C (c_X9_layGaps l g h17) rfl O_3 rfl (gcV hsT tw_3_34 cw_X9_layGaps) rfl rfl rfl hy_X9_layGaps rfl ⟨Nat.le_of_ble_eq_true rfl, Nat.le_of_ble_eq_true rfl⟩ (Nat.le_of_ble_eq_true rfl) dX9_reckon_17 ?_
  refine z_aload_n C dX9_reckon_20 rfl ?_
  refine z_aload_n C dX9_reckon_21 rfl ?_
  obtain ⟨s22, h22, h⟩ := e_bd h
  refine z_callVi (As := []) C (c_X9_raiseLeast l g h22) rfl O_3 rfl (gcV hsT tw_3_42 cw_X9_raiseLeast) rfl rfl rfl hy_X9_raiseLeast rfl ⟨Nat.le_of_ble_eq_true rfl, Nat.le_of_ble_eq_true rfl⟩ (Nat.le_of_ble_eq_true rfl) dX9_reckon_22 ?_
  obtain ⟨j25, h25, h⟩ := e_bd h
  have hj25 : zJ g x s22.2 40 [(0, .ref (ga g 3))] [.int j25, .ref (ga g 3)] := by
    obtain ⟨M40, h40, h⟩ := e_bd h
    refine z_putz tyX9 C O_3 7 O_3_7 rfl (fun _ h9 => hsT _ (inX9 _ h9)) tyX9_ok nmX9 (by decide) rfl (Nat.le_of_ble_eq_true rfl) (hsT _ tw_1_72) dX9_reckon_40 rfl h40 ?_
    refine z_aload_n C dX9_reckon_43 rfl ?_
    refine z_get C O_3 7 rfl (fun _ h9 => hsT _ (inX9 _ h9)) (by decide) (hsT _ tw_1_72) dX9_reckon_44 rfl ?_
    obtain ⟨j47, h47, h⟩ := e_bd h
    have hj47 : zJ g x j47 54 [] [] := by
      obtain rfl := Option.some.inj h
      exact z_vret C E dX9_reckon_54
    have h := h47
    refine z_if_ne 54 C dX9_reckon_47 (by decide) (fun hc => ?_) (fun hc => ?_)
    · have h := e_f hc h
      obtain rfl := Option.some.inj h
      exact z_sub [] rfl hj47
    · have h := e_t hc h
      refine z_aload_n C dX9_reckon_50 rfl ?_
      obtain ⟨M51, h51, h⟩ := e_bd h
      refine z_callVv (As := []) C (c_X9_lowerGreatest l g h51) rfl O_3 rfl (gcV hsT tw_3_50 cw_X9_lowerGreatest) rfl rfl rfl hy_X9_lowerGreatest rfl ⟨Nat.le_of_ble_eq_true rfl, Nat.le_of_ble_eq_true rfl⟩ (Nat.le_of_ble_eq_true rfl) dX9_reckon_51 ?_
      obtain rfl := Option.some.inj h
      exact z_sub [] rfl hj47
  have h := h25
  refine z_if_eq 35 C dX9_reckon_25 (by decide) (fun hc => ?_) (fun hc => ?_)
  · have h := e_t hc h
    refine z_iconst (1 : Int32) C dX9_reckon_35 (by decide) ?_
    refine z_goto 40 C dX9_reckon_36 (by decide) ?_
    obtain rfl := Option.some.inj h
    exact z_sub [0] rfl hj25
  · have h := e_f hc h
    refine z_aload_n C dX9_reckon_28 rfl ?_
    obtain ⟨v29, h29, h⟩ := e_bd h
    refine z_callVi (As := []) C (c_X9_isCrossed l g h29) rfl O_3 rfl (gcV hsT tw_3_46 cw_X9_isCrossed) rfl rfl rfl hy_X9_isCrossed rfl ⟨Nat.le_of_ble_eq_true rfl, Nat.le_of_ble_eq_true rfl⟩ (Nat.le_of_ble_eq_true rfl) dX9_reckon_29 ?_
    refine z_if_eq 39 C dX9_reckon_32 (by decide) (fun hc => ?_) (fun hc => ?_)
    · have h := e_t hc h
      refine z_iconst (0 : Int32) C dX9_reckon_39 (by decide) ?_
      obtain rfl := Option.some.inj h
      exact z_sub [0] rfl hj25
    · have h := e_f hc h
      refine z_iconst (1 : Int32) C dX9_reckon_35 (by decide) ?_
      refine z_goto 40 C dX9_reckon_36 (by decide) ?_
      obtain rfl := Option.some.inj h
      exact z_sub [0] rfl hj25
theorem hy_X9_spoiledBit : yX9_spoiledBit.cls = RX9 ∧ yX9_spoiledBit.cls ≠ "java/lang/invoke/MethodHandle" ∧ yX9_spoiledBit.cls ≠ "java/lang/invoke/VarHandle" ∧ (parseMethodDescriptor yX9_spoiledBit.desc).map (fun d => d.parameters.length) = some 0 := by decide +kernel
def wX9_spoiledBit : List Cond := Cond.code yX9_spoiledBit cX9_spoiledBit 1 (some .int) :: TB
def f_X9_spoiledBit (M : MM)  : Option Int32 :=
  (if (M 3 7) = 0 then
    some (0 : Int32)
  else
    some (1 : Int32)
  ).bind fun (j4 : Int32) =>
    some j4
set_option maxRecDepth 100000 in
set_option maxHeartbeats 4000000 in
theorem c_X9_spoiledBit (l : Launch) (g : Gx) {M : MM}  {r : Int32} (h : f_X9_spoiledBit M  = some r) : zMi l yX9_spoiledBit wX9_spoiledBit (rmm 0 0) [.ref (ga g 3)] g M r M := by
  refine zMi_of .int (by decide) rfl (Nat.le_of_ble_eq_true rfl) rfl rfl ?_
  intro x C E
  show zJ g x M 0 [(0, .ref (ga g 3))] []
  unfold f_X9_spoiledBit at h
  refine z_aload_n C dX9_spoiledBit_0 rfl ?_
  refine z_get C O_3 7 rfl (fun _ h9 => hsT _ (inX9 _ h9)) (by decide) (hsT _ tw_1_72) dX9_spoiledBit_1 rfl ?_
  obtain ⟨j4, h4, h⟩ := e_bd h
  have hj4 : zJ g x M 12 [] [.int j4] := by
    obtain rfl := Option.some.inj h
    exact z_iret C E dX9_spoiledBit_12
  have h := h4
  refine z_if_eq 11 C dX9_spoiledBit_4 (by decide) (fun hc => ?_) (fun hc => ?_)
  · have h := e_t hc h
    refine z_iconst (0 : Int32) C dX9_spoiledBit_11 (by decide) ?_
    obtain rfl := Option.some.inj h
    exact z_sub [] rfl hj4
  · have h := e_f hc h
    refine z_iconst (1 : Int32) C dX9_spoiledBit_7 (by decide) ?_
    refine z_goto 12 C dX9_spoiledBit_8 (by decide) ?_
    obtain rfl := Option.some.inj h
    exact z_sub [] rfl hj4
theorem hy_X9_isKnown : yX9_isKnown.cls = RX9 ∧ yX9_isKnown.cls ≠ "java/lang/invoke/MethodHandle" ∧ yX9_isKnown.cls ≠ "java/lang/invoke/VarHandle" ∧ (parseMethodDescriptor yX9_isKnown.desc).map (fun d => d.parameters.length) = some 1 := by decide +kernel
def wX9_isKnown : List Cond := Cond.code yX9_isKnown cX9_isKnown 2 (some .boolean) :: TB
def f_X9_isKnown (M : MM) (x1 : Int32) : Option Int32 :=
  (if (M 3 7) = 0 then
    if x1 < 0 then
      some (0 : Int32)
    else
      if (M 3 5) ≤ x1 then
        some (0 : Int32)
      else
        some (1 : Int32)
  else
    some (0 : Int32)
  ).bind fun (j4 : Int32) =>
    z_rzp j4
set_option maxRecDepth 100000 in
set_option maxHeartbeats 4000000 in
theorem c_X9_isKnown (l : Launch) (g : Gx) {M : MM} {x1 : Int32} {r : Int32} (h : f_X9_isKnown M x1 = some r) : zMi l yX9_isKnown wX9_isKnown (rmm 0 0) [.ref (ga g 3), .int x1] g M r M := by
  refine zMi_of .boolean (by decide) rfl (Nat.le_of_ble_eq_true rfl) rfl rfl ?_
  intro x C E
  show zJ g x M 0 [(0, .ref (ga g 3)), (1, .int x1)] []
  unfold f_X9_isKnown at h
  refine z_aload_n C dX9_isKnown_0 rfl ?_
  refine z_get C O_3 7 rfl (fun _ h9 => hsT _ (inX9 _ h9)) (by decide) (hsT _ tw_1_72) dX9_isKnown_1 rfl ?_
  obtain ⟨j4, h4, h⟩ := e_bd h
  have hj4 : zJ g x M 24 [] [.int j4] := by
    obtain ⟨hz, rfl⟩ := e_rzp h
    exact z_zret C E hz dX9_isKnown_24
  have h := h4
  refine z_if_ne 23 C dX9_isKnown_4 (by decide) (fun hc => ?_) (fun hc => ?_)
  · have h := e_f hc h
    refine z_iconst (0 : Int32) C dX9_isKnown_23 (by decide) ?_
    obtain rfl := Option.some.inj h
    exact z_sub [] rfl hj4
  · have h := e_t hc h
    refine z_iload_n C dX9_isKnown_7 rfl ?_
    refine z_if_lt 23 C dX9_isKnown_8 (by decide) (fun hc => ?_) (fun hc => ?_)
    · have h := e_t hc h
      refine z_iconst (0 : Int32) C dX9_isKnown_23 (by decide) ?_
      obtain rfl := Option.some.inj h
      exact z_sub [] rfl hj4
    · have h := e_f hc h
      refine z_iload_n C dX9_isKnown_11 rfl ?_
      refine z_aload_n C dX9_isKnown_12 rfl ?_
      refine z_get C O_3 5 rfl (fun _ h9 => hsT _ (inX9 _ h9)) (by decide) (hsT _ tw_1_70) dX9_isKnown_13 rfl ?_
      refine z_icmp_ge 23 C dX9_isKnown_16 (by decide) (fun hc => ?_) (fun hc => ?_)
      · have h := e_t hc h
        refine z_iconst (0 : Int32) C dX9_isKnown_23 (by decide) ?_
        obtain rfl := Option.some.inj h
        exact z_sub [] rfl hj4
      · have h := e_f hc h
        refine z_iconst (1 : Int32) C dX9_isKnown_19 (by decide) ?_
        refine z_goto 24 C dX9_isKnown_20 (by decide) ?_
        obtain rfl := Option.some.inj h
        exact z_sub [] rfl hj4
theorem hy_X9_leastOf : yX9_leastOf.cls = RX9 ∧ yX9_leastOf.cls ≠ "java/lang/invoke/MethodHandle" ∧ yX9_leastOf.cls ≠ "java/lang/invoke/VarHandle" ∧ (parseMethodDescriptor yX9_leastOf.desc).map (fun d => d.parameters.length) = some 1 := by decide +kernel
def wX9_leastOf : List Cond := Cond.code yX9_leastOf cX9_leastOf 2 (some .int) :: TB
def f_X9_leastOf (M : MM) (x1 : Int32) : Option Int32 :=
  (f_X9_isKnown M x1).bind fun (v2 : Int32) =>
  (if v2 = 0 then
    some (-1 : Int32)
  else
    (z_ld M 14 32 x1).bind fun (v13 : Int32) =>
    some v13
  ).bind fun (j5 : Int32) =>
    some j5
set_option maxRecDepth 100000 in
set_option maxHeartbeats 4000000 in
theorem c_X9_leastOf (l : Launch) (g : Gx) {M : MM} {x1 : Int32} {r : Int32} (h : f_X9_leastOf M x1 = some r) : zMi l yX9_leastOf wX9_leastOf (rmm 1 21) [.ref (ga g 3), .int x1] g M r M := by
  refine zMi_of .int (by decide) rfl (Nat.le_of_ble_eq_true rfl) rfl rfl ?_
  intro x C E
  show zJ g x M 0 [(0, .ref (ga g 3)), (1, .int x1)] []
  unfold f_X9_leastOf at h
  refine z_aload_n C dX9_leastOf_0 rfl ?_
  refine z_iload_n C dX9_leastOf_1 rfl ?_
  obtain ⟨v2, h2, h⟩ := e_bd h
  refine z_callVi (As := [.int x1]) C (c_X9_isKnown l g h2) rfl O_3 rfl (gcV hsT tw_2_118 cw_X9_isKnown) rfl rfl rfl hy_X9_isKnown rfl ⟨Nat.le_of_ble_eq_true rfl, Nat.le_of_ble_eq_true rfl⟩ (Nat.le_of_ble_eq_true rfl) dX9_leastOf_2 ?_
  obtain ⟨j5, h5, h⟩ := e_bd h
  have hj5 : zJ g x M 18 [] [.int j5] := by
    obtain rfl := Option.some.inj h
    exact z_iret C E dX9_leastOf_18
  have h := h5
  refine z_if_eq 17 C dX9_leastOf_5 (by decide) (fun hc => ?_) (fun hc => ?_)
  · have h := e_t hc h
    refine z_iconst (-1 : Int32) C dX9_leastOf_17 (by decide) ?_
    obtain rfl := Option.some.inj h
    exact z_sub [] rfl hj5
  · have h := e_f hc h
    refine z_aload_n C dX9_leastOf_8 rfl ?_
    refine z_get C O_3 0 rfl (fun _ h9 => hsT _ (inX9 _ h9)) (by decide) (hsT _ tw_1_65) dX9_leastOf_9 rfl ?_
    refine z_iload_n C dX9_leastOf_12 rfl ?_
    obtain ⟨v13, h13, h⟩ := e_bd h
    refine z_iald C I_14 h13 dX9_leastOf_13 ?_
    refine z_goto 18 C dX9_leastOf_14 (by decide) ?_
    obtain rfl := Option.some.inj h
    exact z_sub [] rfl hj5
theorem hy_X9_greatestOf : yX9_greatestOf.cls = RX9 ∧ yX9_greatestOf.cls ≠ "java/lang/invoke/MethodHandle" ∧ yX9_greatestOf.cls ≠ "java/lang/invoke/VarHandle" ∧ (parseMethodDescriptor yX9_greatestOf.desc).map (fun d => d.parameters.length) = some 1 := by decide +kernel
def wX9_greatestOf : List Cond := Cond.code yX9_greatestOf cX9_greatestOf 2 (some .int) :: TB
def f_X9_greatestOf (M : MM) (x1 : Int32) : Option Int32 :=
  (f_X9_isKnown M x1).bind fun (v2 : Int32) =>
  (if v2 = 0 then
    some (-1 : Int32)
  else
    (z_ld M 15 32 x1).bind fun (v13 : Int32) =>
    some v13
  ).bind fun (j5 : Int32) =>
    some j5
set_option maxRecDepth 100000 in
set_option maxHeartbeats 4000000 in
theorem c_X9_greatestOf (l : Launch) (g : Gx) {M : MM} {x1 : Int32} {r : Int32} (h : f_X9_greatestOf M x1 = some r) : zMi l yX9_greatestOf wX9_greatestOf (rmm 1 21) [.ref (ga g 3), .int x1] g M r M := by
  refine zMi_of .int (by decide) rfl (Nat.le_of_ble_eq_true rfl) rfl rfl ?_
  intro x C E
  show zJ g x M 0 [(0, .ref (ga g 3)), (1, .int x1)] []
  unfold f_X9_greatestOf at h
  refine z_aload_n C dX9_greatestOf_0 rfl ?_
  refine z_iload_n C dX9_greatestOf_1 rfl ?_
  obtain ⟨v2, h2, h⟩ := e_bd h
  refine z_callVi (As := [.int x1]) C (c_X9_isKnown l g h2) rfl O_3 rfl (gcV hsT tw_2_118 cw_X9_isKnown) rfl rfl rfl hy_X9_isKnown rfl ⟨Nat.le_of_ble_eq_true rfl, Nat.le_of_ble_eq_true rfl⟩ (Nat.le_of_ble_eq_true rfl) dX9_greatestOf_2 ?_
  obtain ⟨j5, h5, h⟩ := e_bd h
  have hj5 : zJ g x M 18 [] [.int j5] := by
    obtain rfl := Option.some.inj h
    exact z_iret C E dX9_greatestOf_18
  have h := h5
  refine z_if_eq 17 C dX9_greatestOf_5 (by decide) (fun hc => ?_) (fun hc => ?_)
  · have h := e_t hc h
    refine z_iconst (-1 : Int32) C dX9_greatestOf_17 (by decide) ?_
    obtain rfl := Option.some.inj h
    exact z_sub [] rfl hj5
  · have h := e_f hc h
    refine z_aload_n C dX9_greatestOf_8 rfl ?_
    refine z_get C O_3 1 rfl (fun _ h9 => hsT _ (inX9 _ h9)) (by decide) (hsT _ tw_1_66) dX9_greatestOf_9 rfl ?_
    refine z_iload_n C dX9_greatestOf_12 rfl ?_
    obtain ⟨v13, h13, h⟩ := e_bd h
    refine z_iald C I_15 h13 dX9_greatestOf_13 ?_
    refine z_goto 18 C dX9_greatestOf_14 (by decide) ?_
    obtain rfl := Option.some.inj h
    exact z_sub [] rfl hj5
theorem hy_X9_leastBirth : yX9_leastBirth.cls = RX9 ∧ yX9_leastBirth.cls ≠ "java/lang/invoke/MethodHandle" ∧ yX9_leastBirth.cls ≠ "java/lang/invoke/VarHandle" ∧ (parseMethodDescriptor yX9_leastBirth.desc).map (fun d => d.parameters.length) = some 1 := by decide +kernel
def wX9_leastBirth : List Cond := Cond.code yX9_leastBirth cX9_leastBirth 2 (some .int) :: TB
def f_X9_leastBirth (M : MM) (x1 : Int32) : Option Int32 :=
  (f_X9_birth M x1).bind fun (v2 : Int32) =>
  (f_X9_leastOf M v2).bind fun (v5 : Int32) =>
  some v5
set_option maxRecDepth 100000 in
set_option maxHeartbeats 4000000 in
theorem c_X9_leastBirth (l : Launch) (g : Gx) {M : MM} {x1 : Int32} {r : Int32} (h : f_X9_leastBirth M x1 = some r) : zMi l yX9_leastBirth wX9_leastBirth (rmm 2 42) [.ref (ga g 3), .int x1] g M r M := by
  refine zMi_of .int (by decide) rfl (Nat.le_of_ble_eq_true rfl) rfl rfl ?_
  intro x C E
  show zJ g x M 0 [(0, .ref (ga g 3)), (1, .int x1)] []
  unfold f_X9_leastBirth at h
  refine z_aload_n C dX9_leastBirth_0 rfl ?_
  refine z_iload_n C dX9_leastBirth_1 rfl ?_
  obtain ⟨v2, h2, h⟩ := e_bd h
  refine z_callSi (As := [.int x1]) C (c_X9_birth l g h2) rfl (gcS hsT tw_2_111 cw_X9_birth) rfl rfl rfl hy_X9_birth rfl ⟨Nat.le_of_ble_eq_true rfl, Nat.le_of_ble_eq_true rfl⟩ (Nat.le_of_ble_eq_true rfl) dX9_leastBirth_2 ?_
  obtain ⟨v5, h5, h⟩ := e_bd h
  refine z_callVi (As := [.int v2]) C (c_X9_leastOf l g h5) rfl O_3 rfl (gcV hsT tw_2_114 cw_X9_leastOf) rfl rfl rfl hy_X9_leastOf rfl ⟨Nat.le_of_ble_eq_true rfl, Nat.le_of_ble_eq_true rfl⟩ (Nat.le_of_ble_eq_true rfl) dX9_leastBirth_5 ?_
  obtain rfl := Option.some.inj h
  exact z_iret C E dX9_leastBirth_8
theorem hy_X9_greatestBirth : yX9_greatestBirth.cls = RX9 ∧ yX9_greatestBirth.cls ≠ "java/lang/invoke/MethodHandle" ∧ yX9_greatestBirth.cls ≠ "java/lang/invoke/VarHandle" ∧ (parseMethodDescriptor yX9_greatestBirth.desc).map (fun d => d.parameters.length) = some 1 := by decide +kernel
def wX9_greatestBirth : List Cond := Cond.code yX9_greatestBirth cX9_greatestBirth 2 (some .int) :: TB
def f_X9_greatestBirth (M : MM) (x1 : Int32) : Option Int32 :=
  (f_X9_birth M x1).bind fun (v2 : Int32) =>
  (f_X9_greatestOf M v2).bind fun (v5 : Int32) =>
  some v5
set_option maxRecDepth 100000 in
set_option maxHeartbeats 4000000 in
theorem c_X9_greatestBirth (l : Launch) (g : Gx) {M : MM} {x1 : Int32} {r : Int32} (h : f_X9_greatestBirth M x1 = some r) : zMi l yX9_greatestBirth wX9_greatestBirth (rmm 2 42) [.ref (ga g 3), .int x1] g M r M := by
  refine zMi_of .int (by decide) rfl (Nat.le_of_ble_eq_true rfl) rfl rfl ?_
  intro x C E
  show zJ g x M 0 [(0, .ref (ga g 3)), (1, .int x1)] []
  unfold f_X9_greatestBirth at h
  refine z_aload_n C dX9_greatestBirth_0 rfl ?_
  refine z_iload_n C dX9_greatestBirth_1 rfl ?_
  obtain ⟨v2, h2, h⟩ := e_bd h
  refine z_callSi (As := [.int x1]) C (c_X9_birth l g h2) rfl (gcS hsT tw_2_111 cw_X9_birth) rfl rfl rfl hy_X9_birth rfl ⟨Nat.le_of_ble_eq_true rfl, Nat.le_of_ble_eq_true rfl⟩ (Nat.le_of_ble_eq_true rfl) dX9_greatestBirth_2 ?_
  obtain ⟨v5, h5, h⟩ := e_bd h
  refine z_callVi (As := [.int v2]) C (c_X9_greatestOf l g h5) rfl O_3 rfl (gcV hsT tw_2_126 cw_X9_greatestOf) rfl rfl rfl hy_X9_greatestOf rfl ⟨Nat.le_of_ble_eq_true rfl, Nat.le_of_ble_eq_true rfl⟩ (Nat.le_of_ble_eq_true rfl) dX9_greatestBirth_5 ?_
  obtain rfl := Option.some.inj h
  exact z_iret C E dX9_greatestBirth_8
theorem hy_X9_leastDeath : yX9_leastDeath.cls = RX9 ∧ yX9_leastDeath.cls ≠ "java/lang/invoke/MethodHandle" ∧ yX9_leastDeath.cls ≠ "java/lang/invoke/VarHandle" ∧ (parseMethodDescriptor yX9_leastDeath.desc).map (fun d => d.parameters.length) = some 1 := by decide +kernel
def wX9_leastDeath : List Cond := Cond.code yX9_leastDeath cX9_leastDeath 2 (some .int) :: TB
def f_X9_leastDeath (M : MM) (x1 : Int32) : Option Int32 :=
  (f_X9_death M x1).bind fun (v2 : Int32) =>
  (f_X9_leastOf M v2).bind fun (v5 : Int32) =>
  some v5
set_option maxRecDepth 100000 in
set_option maxHeartbeats 4000000 in
theorem c_X9_leastDeath (l : Launch) (g : Gx) {M : MM} {x1 : Int32} {r : Int32} (h : f_X9_leastDeath M x1 = some r) : zMi l yX9_leastDeath wX9_leastDeath (rmm 2 42) [.ref (ga g 3), .int x1] g M r M := by
  refine zMi_of .int (by decide) rfl (Nat.le_of_ble_eq_true rfl) rfl rfl ?_
  intro x C E
  show zJ g x M 0 [(0, .ref (ga g 3)), (1, .int x1)] []
  unfold f_X9_leastDeath at h
  refine z_aload_n C dX9_leastDeath_0 rfl ?_
  refine z_iload_n C dX9_leastDeath_1 rfl ?_
  obtain ⟨v2, h2, h⟩ := e_bd h
  refine z_callSi (As := [.int x1]) C (c_X9_death l g h2) rfl (gcS hsT tw_2_134 cw_X9_death) rfl rfl rfl hy_X9_death rfl ⟨Nat.le_of_ble_eq_true rfl, Nat.le_of_ble_eq_true rfl⟩ (Nat.le_of_ble_eq_true rfl) dX9_leastDeath_2 ?_
  obtain ⟨v5, h5, h⟩ := e_bd h
  refine z_callVi (As := [.int v2]) C (c_X9_leastOf l g h5) rfl O_3 rfl (gcV hsT tw_2_114 cw_X9_leastOf) rfl rfl rfl hy_X9_leastOf rfl ⟨Nat.le_of_ble_eq_true rfl, Nat.le_of_ble_eq_true rfl⟩ (Nat.le_of_ble_eq_true rfl) dX9_leastDeath_5 ?_
  obtain rfl := Option.some.inj h
  exact z_iret C E dX9_leastDeath_8
theorem hy_X9_greatestDeath : yX9_greatestDeath.cls = RX9 ∧ yX9_greatestDeath.cls ≠ "java/lang/invoke/MethodHandle" ∧ yX9_greatestDeath.cls ≠ "java/lang/invoke/VarHandle" ∧ (parseMethodDescriptor yX9_greatestDeath.desc).map (fun d => d.parameters.length) = some 1 := by decide +kernel
def wX9_greatestDeath : List Cond := Cond.code yX9_greatestDeath cX9_greatestDeath 2 (some .int) :: TB
def f_X9_greatestDeath (M : MM) (x1 : Int32) : Option Int32 :=
  (f_X9_death M x1).bind fun (v2 : Int32) =>
  (f_X9_greatestOf M v2).bind fun (v5 : Int32) =>
  some v5
set_option maxRecDepth 100000 in
set_option maxHeartbeats 4000000 in
theorem c_X9_greatestDeath (l : Launch) (g : Gx) {M : MM} {x1 : Int32} {r : Int32} (h : f_X9_greatestDeath M x1 = some r) : zMi l yX9_greatestDeath wX9_greatestDeath (rmm 2 42) [.ref (ga g 3), .int x1] g M r M := by
  refine zMi_of .int (by decide) rfl (Nat.le_of_ble_eq_true rfl) rfl rfl ?_
  intro x C E
  show zJ g x M 0 [(0, .ref (ga g 3)), (1, .int x1)] []
  unfold f_X9_greatestDeath at h
  refine z_aload_n C dX9_greatestDeath_0 rfl ?_
  refine z_iload_n C dX9_greatestDeath_1 rfl ?_
  obtain ⟨v2, h2, h⟩ := e_bd h
  refine z_callSi (As := [.int x1]) C (c_X9_death l g h2) rfl (gcS hsT tw_2_134 cw_X9_death) rfl rfl rfl hy_X9_death rfl ⟨Nat.le_of_ble_eq_true rfl, Nat.le_of_ble_eq_true rfl⟩ (Nat.le_of_ble_eq_true rfl) dX9_greatestDeath_2 ?_
  obtain ⟨v5, h5, h⟩ := e_bd h
  refine z_callVi (As := [.int v2]) C (c_X9_greatestOf l g h5) rfl O_3 rfl (gcV hsT tw_2_126 cw_X9_greatestOf) rfl rfl rfl hy_X9_greatestOf rfl ⟨Nat.le_of_ble_eq_true rfl, Nat.le_of_ble_eq_true rfl⟩ (Nat.le_of_ble_eq_true rfl) dX9_greatestDeath_5 ?_
  obtain rfl := Option.some.inj h
  exact z_iret C E dX9_greatestDeath_8
theorem hy_X9_diedBetween : yX9_diedBetween.cls = RX9 ∧ yX9_diedBetween.cls ≠ "java/lang/invoke/MethodHandle" ∧ yX9_diedBetween.cls ≠ "java/lang/invoke/VarHandle" ∧ (parseMethodDescriptor yX9_diedBetween.desc).map (fun d => d.parameters.length) = some 3 := by decide +kernel
def wX9_diedBetween : List Cond := Cond.code yX9_diedBetween cX9_diedBetween 6 (some .int) :: TB
def f_X9_diedBetween_L6 : Nat → MM → Int32 → Int32 → Int32 → Int32 → Int32 → Option (Int32)
  | 0, _, _, _, _, _, _ => none
  | n + 1, M, x1, x2, x3, x4, x5 =>
    if x1 ≤ x5 then
      some x4
    else
      if (M 3 7) = 0 then
        (f_X9_leastDeath M x5).bind fun (v22 : Int32) =>
        (if x3 < v22 then
          some x4
        else
          (f_X9_greatestDeath M x5).bind fun (v32 : Int32) =>
          if v32 < x2 then
            some x4
          else
            some (x4 ||| ((1 : Int32) <<< (x5 &&& 31)))
        ).bind fun (j26 : Int32) =>
          f_X9_diedBetween_L6 n M x1 x2 x3 j26 (x5 + (1 : Int32))
      else
        some x4
def f_X9_diedBetween (M : MM) (x1 : Int32) (x2 : Int32) (x3 : Int32) : Option Int32 :=
  (f_X9_diedBetween_L6 FU M x1 x2 x3 (0 : Int32) (0 : Int32)).bind fun (w6 : Int32) =>
  some w6
set_option maxRecDepth 100000 in
set_option maxHeartbeats 4000000 in
theorem lp_X9_diedBetween_6 {l : Launch} {g : Gx} {x : Cx} (C : zC g x l RX9 cX9_diedBetween wX9_diedBetween (rmm 3 63) 6) {r : Int32} : ∀ (n : Nat) (M : MM) (x1 x2 x3 x4 x5 : Int32) , f_X9_diedBetween_L6 n M x1 x2 x3 x4 x5 = some r → zJ g x M 54 [(4, .int r)] [] → zJ g x M 6 [(0, .ref (ga g 3)), (1, .int x1), (2, .int x2), (3, .int x3), (4, .int x4), (5, .int x5)] [] := by
  intro n
  induction n with
  | zero =>
    intro M x1 x2 x3 x4 x5 h hj
    exact absurd h (by simp [f_X9_diedBetween_L6])
  | succ n ih =>
    intro M x1 x2 x3 x4 x5 h hj
    rw [f_X9_diedBetween_L6] at h
    refine z_iload C dX9_diedBetween_6 rfl ?_
    refine z_iload_n C dX9_diedBetween_8 rfl ?_
    refine z_icmp_ge 54 C dX9_diedBetween_9 (by decide) (fun hc => ?_) (fun hc => ?_)
    · have h := e_t hc h
      obtain rfl := Option.some.inj h
      exact z_sub [4] rfl hj
    · have h := e_f hc h
      refine z_aload_n C dX9_diedBetween_12 rfl ?_
      refine z_get C O_3 7 rfl (fun _ h9 => hsT _ (inX9 _ h9)) (by decide) (hsT _ tw_1_72) dX9_diedBetween_13 rfl ?_
      refine z_if_ne 54 C dX9_diedBetween_16 (by decide) (fun hc => ?_) (fun hc => ?_)
      · have h := e_f hc h
        obtain rfl := Option.some.inj h
        exact z_sub [4] rfl hj
      · have h := e_t hc h
        refine z_aload_n C dX9_diedBetween_19 rfl ?_
        refine z_iload C dX9_diedBetween_20 rfl ?_
        obtain ⟨v22, h22, h⟩ := e_bd h
        refine z_callVi (As := [.int x5]) C (c_X9_leastDeath l g h22) rfl O_3 rfl (gcV hsT tw_2_210 cw_X9_leastDeath) rfl rfl rfl hy_X9_leastDeath rfl ⟨Nat.le_of_ble_eq_true rfl, Nat.le_of_ble_eq_true rfl⟩ (Nat.le_of_ble_eq_true rfl) dX9_diedBetween_22 ?_
        refine z_iload_n C dX9_diedBetween_25 rfl ?_
        obtain ⟨j26, h26, h⟩ := e_bd h
        have hj26 : zJ g x M 48 [(0, .ref (ga g 3)), (1, .int x1), (2, .int x2), (3, .int x3), (4, .int j26), (5, .int x5)] [] := by
          refine z_iinc (v := (x5 + (1 : Int32))) [(5, .int (x5 + (1 : Int32))), (0, .ref (ga g 3)), (1, .int x1), (2, .int x2), (3, .int x3), (4, .int j26)] C dX9_diedBetween_48 rfl rfl (by decide) rfl ?_
          refine z_goto 6 C dX9_diedBetween_51 (by decide) ?_
          refine z_sub [1, 2, 3, 4, 5, 0] rfl ?_
          exact ih _ _ _ _ _ _ h hj
        have h := h26
        refine z_icmp_gt 48 C dX9_diedBetween_26 (by decide) (fun hc => ?_) (fun hc => ?_)
        · have h := e_t hc h
          obtain rfl := Option.some.inj h
          exact z_sub [0, 1, 2, 3, 4, 5] rfl hj26
        · have h := e_f hc h
          refine z_aload_n C dX9_diedBetween_29 rfl ?_
          refine z_iload C dX9_diedBetween_30 rfl ?_
          obtain ⟨v32, h32, h⟩ := e_bd h
          refine z_callVi (As := [.int x5]) C (c_X9_greatestDeath l g h32) rfl O_3 rfl (gcV hsT tw_2_211 cw_X9_greatestDeath) rfl rfl rfl hy_X9_greatestDeath rfl ⟨Nat.le_of_ble_eq_true rfl, Nat.le_of_ble_eq_true rfl⟩ (Nat.le_of_ble_eq_true rfl) dX9_diedBetween_32 ?_
          refine z_iload_n C dX9_diedBetween_35 rfl ?_
          refine z_icmp_lt 48 C dX9_diedBetween_36 (by decide) (fun hc => ?_) (fun hc => ?_)
          · have h := e_t hc h
            obtain rfl := Option.some.inj h
            exact z_sub [0, 1, 2, 3, 4, 5] rfl hj26
          · have h := e_f hc h
            refine z_iload C dX9_diedBetween_39 rfl ?_
            refine z_iconst (1 : Int32) C dX9_diedBetween_41 (by decide) ?_
            refine z_iload C dX9_diedBetween_42 rfl ?_
            refine z_ishl C dX9_diedBetween_44 ?_
            refine z_ior C dX9_diedBetween_45 ?_
            refine z_istore [(4, .int (x4 ||| ((1 : Int32) <<< (x5 &&& 31)))), (0, .ref (ga g 3)), (1, .int x1), (2, .int x2), (3, .int x3), (5, .int x5)] C dX9_diedBetween_46 (by decide) rfl ?_
            obtain rfl := Option.some.inj h
            exact z_sub [1, 2, 3, 4, 0, 5] rfl hj26
set_option maxRecDepth 100000 in
set_option maxHeartbeats 4000000 in
theorem c_X9_diedBetween (l : Launch) (g : Gx) {M : MM} {x1 : Int32} {x2 : Int32} {x3 : Int32} {r : Int32} (h : f_X9_diedBetween M x1 x2 x3 = some r) : zMi l yX9_diedBetween wX9_diedBetween (rmm 3 63) [.ref (ga g 3), .int x1, .int x2, .int x3] g M r M := by
  refine zMi_of .int (by decide) rfl (Nat.le_of_ble_eq_true rfl) rfl rfl ?_
  intro x C E
  show zJ g x M 0 [(0, .ref (ga g 3)), (1, .int x1), (2, .int x2), (3, .int x3)] []
  unfold f_X9_diedBetween at h
  refine z_iconst (0 : Int32) C dX9_diedBetween_0 (by decide) ?_
  refine z_istore [(4, .int (0 : Int32)), (0, .ref (ga g 3)), (1, .int x1), (2, .int x2), (3, .int x3)] C dX9_diedBetween_1 (by decide) rfl ?_
  refine z_iconst (0 : Int32) C dX9_diedBetween_3 (by decide) ?_
  refine z_istore [(5, .int (0 : Int32)), (4, .int (0 : Int32)), (0, .ref (ga g 3)), (1, .int x1), (2, .int x2), (3, .int x3)] C dX9_diedBetween_4 (by decide) rfl ?_
  obtain ⟨w6, h6, h⟩ := e_bd h
  refine z_sub [2, 3, 4, 5, 1, 0] rfl ?_
  refine lp_X9_diedBetween_6 C _ _ _ _ _ _ _ h6 ?_
  refine z_iload C dX9_diedBetween_54 rfl ?_
  obtain rfl := Option.some.inj h
  exact z_iret C E dX9_diedBetween_56
