theorem hy_X9_birth : yX9_birth.cls ≠ "java/lang/invoke/MethodHandle" ∧ yX9_birth.cls ≠ "java/lang/invoke/VarHandle" ∧ (parseMethodDescriptor yX9_birth.desc).map (fun d => d.parameters.length) = some 1 := by decide +kernel
def wX9_birth : List Cond := Cond.code yX9_birth cX9_birth 1 (some .int) :: TB
def f_X9_birth (M : MM) (x0 : Int32) : Option Int32 :=
  some ((2 : Int32) * x0)
set_option maxRecDepth 100000 in
set_option maxHeartbeats 4000000 in
theorem c_X9_birth (l : Launch) (g : Gx) {M : MM} {x0 : Int32} {r : Int32} (h : f_X9_birth M x0 = some r) : zMi l yX9_birth wX9_birth (rmm 0 0) [.int x0] g M r M := by
  refine zMi_of .int (by decide) rfl (Nat.le_of_ble_eq_true rfl) rfl rfl ?_
  intro x C E
  show zJ g x M 0 [(0, .int x0)] []
  unfold f_X9_birth at h
  refine z_iconst (2 : Int32) C dX9_birth_0 (by decide) ?_
  refine z_iload_n C dX9_birth_1 rfl ?_
  refine z_imul C dX9_birth_2 ?_
  obtain rfl := Option.some.inj h
  exact z_iret C E dX9_birth_3
theorem hy_X9_death : yX9_death.cls ≠ "java/lang/invoke/MethodHandle" ∧ yX9_death.cls ≠ "java/lang/invoke/VarHandle" ∧ (parseMethodDescriptor yX9_death.desc).map (fun d => d.parameters.length) = some 1 := by decide +kernel
def wX9_death : List Cond := Cond.code yX9_death cX9_death 1 (some .int) :: TB
def f_X9_death (M : MM) (x0 : Int32) : Option Int32 :=
  some (((2 : Int32) * x0) + (1 : Int32))
set_option maxRecDepth 100000 in
set_option maxHeartbeats 4000000 in
theorem c_X9_death (l : Launch) (g : Gx) {M : MM} {x0 : Int32} {r : Int32} (h : f_X9_death M x0 = some r) : zMi l yX9_death wX9_death (rmm 0 0) [.int x0] g M r M := by
  refine zMi_of .int (by decide) rfl (Nat.le_of_ble_eq_true rfl) rfl rfl ?_
  intro x C E
  show zJ g x M 0 [(0, .int x0)] []
  unfold f_X9_death at h
  refine z_iconst (2 : Int32) C dX9_death_0 (by decide) ?_
  refine z_iload_n C dX9_death_1 rfl ?_
  refine z_imul C dX9_death_2 ?_
  refine z_iconst (1 : Int32) C dX9_death_3 (by decide) ?_
  refine z_iadd C dX9_death_4 ?_
  obtain rfl := Option.some.inj h
  exact z_iret C E dX9_death_5
theorem hy_X9_layBounds : yX9_layBounds.cls = RX9 ∧ yX9_layBounds.cls ≠ "java/lang/invoke/MethodHandle" ∧ yX9_layBounds.cls ≠ "java/lang/invoke/VarHandle" ∧ (parseMethodDescriptor yX9_layBounds.desc).map (fun d => d.parameters.length) = some 1 := by decide +kernel
def wX9_layBounds : List Cond := Cond.code yX9_layBounds cX9_layBounds 3 none :: TB
def f_X9_layBounds_L2 : Nat → MM → Int32 → Option (MM)
  | 0, _, _ => none
  | n + 1, M, x2 =>
    (z_div (M 3 5) (2 : Int32)).bind fun (v8 : Int32) =>
    if v8 ≤ x2 then
      some M
    else
      (f_X9_birth M x2).bind fun (v17 : Int32) =>
      (f_X7_fact M x2 (4 : Int32)).bind fun (v23 : Int32) =>
      (z_sto M 14 32 v17 v23).bind fun (M26 : MM) =>
      (f_X9_birth M26 x2).bind fun (v32 : Int32) =>
      (f_X7_fact M26 x2 (5 : Int32)).bind fun (v38 : Int32) =>
      (z_sto M26 15 32 v32 v38).bind fun (M41 : MM) =>
      (f_X9_death M41 x2).bind fun (v47 : Int32) =>
      (f_X7_fact M41 x2 (6 : Int32)).bind fun (v54 : Int32) =>
      (z_sto M41 14 32 v47 v54).bind fun (M57 : MM) =>
      (f_X9_death M57 x2).bind fun (v63 : Int32) =>
      (f_X7_fact M57 x2 (7 : Int32)).bind fun (v70 : Int32) =>
      (z_sto M57 15 32 v63 v70).bind fun (M73 : MM) =>
      f_X9_layBounds_L2 n M73 (x2 + (1 : Int32))
def f_X9_layBounds (M : MM)  : Option MM :=
  (f_X9_layBounds_L2 FU M (0 : Int32)).bind fun (w2 : MM) =>
  some w2
set_option maxRecDepth 100000 in
set_option maxHeartbeats 4000000 in
theorem lp_X9_layBounds_2 {l : Launch} {g : Gx} {x : Cx} (C : zC g x l RX9 cX9_layBounds wX9_layBounds (rmm 2 43) 3) {r : MM} : ∀ (n : Nat) (M : MM) (x2 : Int32) , f_X9_layBounds_L2 n M x2 = some r → zJ g x r 80 [] [] → zJ g x M 2 [(0, .ref (ga g 3)), (1, .ref (ga g 1)), (2, .int x2)] [] := by
  intro n
  induction n with
  | zero =>
    intro M x2 h hj
    exact absurd h (by simp [f_X9_layBounds_L2])
  | succ n ih =>
    intro M x2 h hj
    rw [f_X9_layBounds_L2] at h
    refine z_iload_n C dX9_layBounds_2 rfl ?_
    refine z_aload_n C dX9_layBounds_3 rfl ?_
    refine z_get C O_3 5 rfl (fun _ h9 => hsT _ (inX9 _ h9)) (by decide) (hsT _ tw_1_70) dX9_layBounds_4 rfl ?_
    refine z_iconst (2 : Int32) C dX9_layBounds_7 (by decide) ?_
    obtain ⟨v8, h8, h⟩ := e_bd h
    refine z_idiv C h8 dX9_layBounds_8 ?_
    refine z_icmp_ge 80 C dX9_layBounds_9 (by decide) (fun hc => ?_) (fun hc => ?_)
    · have h := e_t hc h
      obtain rfl := Option.some.inj h
      exact z_sub [] rfl hj
    · have h := e_f hc h
      refine z_aload_n C dX9_layBounds_12 rfl ?_
      refine z_get C O_3 0 rfl (fun _ h9 => hsT _ (inX9 _ h9)) (by decide) (hsT _ tw_1_65) dX9_layBounds_13 rfl ?_
      refine z_iload_n C dX9_layBounds_16 rfl ?_
      obtain ⟨v17, h17, h⟩ := e_bd h
      refine z_callSi (As := [.int x2]) C (c_X9_birth l g h17) rfl (gcS hsT tw_2_111 cw_X9_birth) rfl rfl rfl hy_X9_birth rfl ⟨Nat.le_of_ble_eq_true rfl, Nat.le_of_ble_eq_true rfl⟩ (Nat.le_of_ble_eq_true rfl) dX9_layBounds_17 ?_
      refine z_aload_n C dX9_layBounds_20 rfl ?_
      refine z_iload_n C dX9_layBounds_21 rfl ?_
      refine z_iconst (4 : Int32) C dX9_layBounds_22 (by decide) ?_
      obtain ⟨v23, h23, h⟩ := e_bd h
      refine z_callVi (As := [.int x2, .int (4 : Int32)]) C (c_X7_fact l g h23) rfl O_1 rfl (gcV hsT tw_3_38 cw_X7_fact) rfl rfl rfl hy_X7_fact rfl ⟨Nat.le_of_ble_eq_true rfl, Nat.le_of_ble_eq_true rfl⟩ (Nat.le_of_ble_eq_true rfl) dX9_layBounds_23 ?_
      obtain ⟨M26, h26, h⟩ := e_bd h
      refine z_iast C I_14 h26 dX9_layBounds_26 ?_
      refine z_aload_n C dX9_layBounds_27 rfl ?_
      refine z_get C O_3 1 rfl (fun _ h9 => hsT _ (inX9 _ h9)) (by decide) (hsT _ tw_1_66) dX9_layBounds_28 rfl ?_
      refine z_iload_n C dX9_layBounds_31 rfl ?_
      obtain ⟨v32, h32, h⟩ := e_bd h
      refine z_callSi (As := [.int x2]) C (c_X9_birth l g h32) rfl (gcS hsT tw_2_111 cw_X9_birth) rfl rfl rfl hy_X9_birth rfl ⟨Nat.le_of_ble_eq_true rfl, Nat.le_of_ble_eq_true rfl⟩ (Nat.le_of_ble_eq_true rfl) dX9_layBounds_32 ?_
      refine z_aload_n C dX9_layBounds_35 rfl ?_
      refine z_iload_n C dX9_layBounds_36 rfl ?_
      refine z_iconst (5 : Int32) C dX9_layBounds_37 (by decide) ?_
      obtain ⟨v38, h38, h⟩ := e_bd h
      refine z_callVi (As := [.int x2, .int (5 : Int32)]) C (c_X7_fact l g h38) rfl O_1 rfl (gcV hsT tw_3_38 cw_X7_fact) rfl rfl rfl hy_X7_fact rfl ⟨Nat.le_of_ble_eq_true rfl, Nat.le_of_ble_eq_true rfl⟩ (Nat.le_of_ble_eq_true rfl) dX9_layBounds_38 ?_
      obtain ⟨M41, h41, h⟩ := e_bd h
      refine z_iast C I_15 h41 dX9_layBounds_41 ?_
      refine z_aload_n C dX9_layBounds_42 rfl ?_
      refine z_get C O_3 0 rfl (fun _ h9 => hsT _ (inX9 _ h9)) (by decide) (hsT _ tw_1_65) dX9_layBounds_43 rfl ?_
      refine z_iload_n C dX9_layBounds_46 rfl ?_
      obtain ⟨v47, h47, h⟩ := e_bd h
      refine z_callSi (As := [.int x2]) C (c_X9_death l g h47) rfl (gcS hsT tw_2_138 cw_X9_death) rfl rfl rfl hy_X9_death rfl ⟨Nat.le_of_ble_eq_true rfl, Nat.le_of_ble_eq_true rfl⟩ (Nat.le_of_ble_eq_true rfl) dX9_layBounds_47 ?_
      refine z_aload_n C dX9_layBounds_50 rfl ?_
      refine z_iload_n C dX9_layBounds_51 rfl ?_
      refine z_bipush (6 : Int32) C dX9_layBounds_52 (by decide) ?_
      obtain ⟨v54, h54, h⟩ := e_bd h
      refine z_callVi (As := [.int x2, .int (6 : Int32)]) C (c_X7_fact l g h54) rfl O_1 rfl (gcV hsT tw_3_38 cw_X7_fact) rfl rfl rfl hy_X7_fact rfl ⟨Nat.le_of_ble_eq_true rfl, Nat.le_of_ble_eq_true rfl⟩ (Nat.le_of_ble_eq_true rfl) dX9_layBounds_54 ?_
      obtain ⟨M57, h57, h⟩ := e_bd h
      refine z_iast C I_14 h57 dX9_layBounds_57 ?_
      refine z_aload_n C dX9_layBounds_58 rfl ?_
      refine z_get C O_3 1 rfl (fun _ h9 => hsT _ (inX9 _ h9)) (by decide) (hsT _ tw_1_66) dX9_layBounds_59 rfl ?_
      refine z_iload_n C dX9_layBounds_62 rfl ?_
      obtain ⟨v63, h63, h⟩ := e_bd h
      refine z_callSi (As := [.int x2]) C (c_X9_death l g h63) rfl (gcS hsT tw_2_138 cw_X9_death) rfl rfl rfl hy_X9_death rfl ⟨Nat.le_of_ble_eq_true rfl, Nat.le_of_ble_eq_true rfl⟩ (Nat.le_of_ble_eq_true rfl) dX9_layBounds_63 ?_
      refine z_aload_n C dX9_layBounds_66 rfl ?_
      refine z_iload_n C dX9_layBounds_67 rfl ?_
      refine z_bipush (7 : Int32) C dX9_layBounds_68 (by decide) ?_
      obtain ⟨v70, h70, h⟩ := e_bd h
      refine z_callVi (As := [.int x2, .int (7 : Int32)]) C (c_X7_fact l g h70) rfl O_1 rfl (gcV hsT tw_3_38 cw_X7_fact) rfl rfl rfl hy_X7_fact rfl ⟨Nat.le_of_ble_eq_true rfl, Nat.le_of_ble_eq_true rfl⟩ (Nat.le_of_ble_eq_true rfl) dX9_layBounds_70 ?_
      obtain ⟨M73, h73, h⟩ := e_bd h
      refine z_iast C I_15 h73 dX9_layBounds_73 ?_
      refine z_iinc (v := (x2 + (1 : Int32))) [(2, .int (x2 + (1 : Int32))), (0, .ref (ga g 3)), (1, .ref (ga g 1))] C dX9_layBounds_74 rfl rfl (by decide) rfl ?_
      refine z_goto 2 C dX9_layBounds_77 (by decide) ?_
      refine z_sub [1, 2, 0] rfl ?_
      exact ih _ _ h hj
set_option maxRecDepth 100000 in
set_option maxHeartbeats 4000000 in
theorem c_X9_layBounds (l : Launch) (g : Gx) {M : MM}  {r : MM} (h : f_X9_layBounds M  = some r) : zMv l yX9_layBounds wX9_layBounds (rmm 2 43) [.ref (ga g 3), .ref (ga g 1)] g M r := by
  refine zMv_of (by decide) rfl (Nat.le_of_ble_eq_true rfl) rfl rfl ?_
  intro x C E
  show zJ g x M 0 [(0, .ref (ga g 3)), (1, .ref (ga g 1))] []
  unfold f_X9_layBounds at h
  refine z_iconst (0 : Int32) C dX9_layBounds_0 (by decide) ?_
  refine z_istore_n [(2, .int (0 : Int32)), (0, .ref (ga g 3)), (1, .ref (ga g 1))] C dX9_layBounds_1 (by decide) rfl ?_
  obtain ⟨w2, h2, h⟩ := e_bd h
  refine z_sub [1, 2, 0] rfl ?_
  refine lp_X9_layBounds_2 C _ _ _ h2 ?_
  obtain rfl := Option.some.inj h
  exact z_vret C E dX9_layBounds_80
theorem hy_X9_isMoment : yX9_isMoment.cls = RX9 ∧ yX9_isMoment.cls ≠ "java/lang/invoke/MethodHandle" ∧ yX9_isMoment.cls ≠ "java/lang/invoke/VarHandle" ∧ (parseMethodDescriptor yX9_isMoment.desc).map (fun d => d.parameters.length) = some 1 := by decide +kernel
def wX9_isMoment : List Cond := Cond.code yX9_isMoment cX9_isMoment 2 (some .boolean) :: TB
def f_X9_isMoment (M : MM) (x1 : Int32) : Option Int32 :=
  (if x1 < 0 then
    some (0 : Int32)
  else
    if (M 3 5) ≤ x1 then
      some (0 : Int32)
    else
      some (1 : Int32)
  ).bind fun (j1 : Int32) =>
    z_rzp j1
set_option maxRecDepth 100000 in
set_option maxHeartbeats 4000000 in
theorem c_X9_isMoment (l : Launch) (g : Gx) {M : MM} {x1 : Int32} {r : Int32} (h : f_X9_isMoment M x1 = some r) : zMi l yX9_isMoment wX9_isMoment (rmm 0 0) [.ref (ga g 3), .int x1] g M r M := by
  refine zMi_of .boolean (by decide) rfl (Nat.le_of_ble_eq_true rfl) rfl rfl ?_
  intro x C E
  show zJ g x M 0 [(0, .ref (ga g 3)), (1, .int x1)] []
  unfold f_X9_isMoment at h
  refine z_iload_n C dX9_isMoment_0 rfl ?_
  obtain ⟨j1, h1, h⟩ := e_bd h
  have hj1 : zJ g x M 17 [] [.int j1] := by
    obtain ⟨hz, rfl⟩ := e_rzp h
    exact z_zret C E hz dX9_isMoment_17
  have h := h1
  refine z_if_lt 16 C dX9_isMoment_1 (by decide) (fun hc => ?_) (fun hc => ?_)
  · have h := e_t hc h
    refine z_iconst (0 : Int32) C dX9_isMoment_16 (by decide) ?_
    obtain rfl := Option.some.inj h
    exact z_sub [] rfl hj1
  · have h := e_f hc h
    refine z_iload_n C dX9_isMoment_4 rfl ?_
    refine z_aload_n C dX9_isMoment_5 rfl ?_
    refine z_get C O_3 5 rfl (fun _ h9 => hsT _ (inX9 _ h9)) (by decide) (hsT _ tw_1_70) dX9_isMoment_6 rfl ?_
    refine z_icmp_ge 16 C dX9_isMoment_9 (by decide) (fun hc => ?_) (fun hc => ?_)
    · have h := e_t hc h
      refine z_iconst (0 : Int32) C dX9_isMoment_16 (by decide) ?_
      obtain rfl := Option.some.inj h
      exact z_sub [] rfl hj1
    · have h := e_f hc h
      refine z_iconst (1 : Int32) C dX9_isMoment_12 (by decide) ?_
      refine z_goto 17 C dX9_isMoment_13 (by decide) ?_
      obtain rfl := Option.some.inj h
      exact z_sub [] rfl hj1
theorem hy_X9_addGap : yX9_addGap.cls = RX9 ∧ yX9_addGap.cls ≠ "java/lang/invoke/MethodHandle" ∧ yX9_addGap.cls ≠ "java/lang/invoke/VarHandle" ∧ (parseMethodDescriptor yX9_addGap.desc).map (fun d => d.parameters.length) = some 3 := by decide +kernel
def wX9_addGap : List Cond := Cond.code yX9_addGap cX9_addGap 4 none :: TB
def f_X9_addGap (M : MM) (x1 : Int32) (x2 : Int32) (x3 : Int32) : Option MM :=
  (if (112 : Int32) ≤ (M 3 6) then
    some M
  else
    (f_X9_isMoment M x1).bind fun (v14 : Int32) =>
    if v14 = 0 then
      some M
    else
      (f_X9_isMoment M x2).bind fun (v22 : Int32) =>
      if v22 = 0 then
        some M
      else
        (z_sto M 16 112 (M 3 6) x1).bind fun (M37 : MM) =>
        (z_sto M37 17 112 (M37 3 6) x2).bind fun (M47 : MM) =>
        (z_sto M47 18 112 (M47 3 6) x3).bind fun (M57 : MM) =>
        (z_stf M57 3 6 ((M57 3 6) + (1 : Int32))).bind fun (M65 : MM) =>
        some M65
  ).bind fun (j9 : MM) =>
    some j9
set_option maxRecDepth 100000 in
set_option maxHeartbeats 4000000 in
theorem c_X9_addGap (l : Launch) (g : Gx) {M : MM} {x1 : Int32} {x2 : Int32} {x3 : Int32} {r : MM} (h : f_X9_addGap M x1 x2 x3 = some r) : zMv l yX9_addGap wX9_addGap (rmm 1 21) [.ref (ga g 3), .int x1, .int x2, .int x3] g M r := by
  refine zMv_of (by decide) rfl (Nat.le_of_ble_eq_true rfl) rfl rfl ?_
  intro x C E
  show zJ g x M 0 [(0, .ref (ga g 3)), (1, .int x1), (2, .int x2), (3, .int x3)] []
  unfold f_X9_addGap at h
  refine z_aload_n C dX9_addGap_0 rfl ?_
  refine z_get C O_3 6 rfl (fun _ h9 => hsT _ (inX9 _ h9)) (by decide) (hsT _ tw_1_71) dX9_addGap_1 rfl ?_
  refine z_aload_n C dX9_addGap_4 rfl ?_
  refine z_get C O_3 4 rfl (fun _ h9 => hsT _ (inX9 _ h9)) (by decide) (hsT _ tw_1_69) dX9_addGap_5 rfl ?_
  refine z_alen (112 : Int32) C I_18 (by decide) dX9_addGap_8 ?_
  obtain ⟨j9, h9, h⟩ := e_bd h
  have hj9 : zJ g x j9 68 [] [] := by
    obtain rfl := Option.some.inj h
    exact z_vret C E dX9_addGap_68
  have h := h9
  refine z_icmp_ge 68 C dX9_addGap_9 (by decide) (fun hc => ?_) (fun hc => ?_)
  · have h := e_t hc h
    obtain rfl := Option.some.inj h
    exact z_sub [] rfl hj9
  · have h := e_f hc h
    refine z_aload_n C dX9_addGap_12 rfl ?_
    refine z_iload_n C dX9_addGap_13 rfl ?_
    obtain ⟨v14, h14, h⟩ := e_bd h
    refine z_callVi (As := [.int x1]) C (c_X9_isMoment l g h14) rfl O_3 rfl (gcV hsT tw_2_122 cw_X9_isMoment) rfl rfl rfl hy_X9_isMoment rfl ⟨Nat.le_of_ble_eq_true rfl, Nat.le_of_ble_eq_true rfl⟩ (Nat.le_of_ble_eq_true rfl) dX9_addGap_14 ?_
    refine z_if_eq 68 C dX9_addGap_17 (by decide) (fun hc => ?_) (fun hc => ?_)
    · have h := e_t hc h
      obtain rfl := Option.some.inj h
      exact z_sub [] rfl hj9
    · have h := e_f hc h
      refine z_aload_n C dX9_addGap_20 rfl ?_
      refine z_iload_n C dX9_addGap_21 rfl ?_
      obtain ⟨v22, h22, h⟩ := e_bd h
      refine z_callVi (As := [.int x2]) C (c_X9_isMoment l g h22) rfl O_3 rfl (gcV hsT tw_2_122 cw_X9_isMoment) rfl rfl rfl hy_X9_isMoment rfl ⟨Nat.le_of_ble_eq_true rfl, Nat.le_of_ble_eq_true rfl⟩ (Nat.le_of_ble_eq_true rfl) dX9_addGap_22 ?_
      refine z_if_eq 68 C dX9_addGap_25 (by decide) (fun hc => ?_) (fun hc => ?_)
      · have h := e_t hc h
        obtain rfl := Option.some.inj h
        exact z_sub [] rfl hj9
      · have h := e_f hc h
        refine z_aload_n C dX9_addGap_28 rfl ?_
        refine z_get C O_3 2 rfl (fun _ h9 => hsT _ (inX9 _ h9)) (by decide) (hsT _ tw_1_67) dX9_addGap_29 rfl ?_
        refine z_aload_n C dX9_addGap_32 rfl ?_
        refine z_get C O_3 6 rfl (fun _ h9 => hsT _ (inX9 _ h9)) (by decide) (hsT _ tw_1_71) dX9_addGap_33 rfl ?_
        refine z_iload_n C dX9_addGap_36 rfl ?_
        obtain ⟨M37, h37, h⟩ := e_bd h
        refine z_iast C I_16 h37 dX9_addGap_37 ?_
        refine z_aload_n C dX9_addGap_38 rfl ?_
        refine z_get C O_3 3 rfl (fun _ h9 => hsT _ (inX9 _ h9)) (by decide) (hsT _ tw_1_68) dX9_addGap_39 rfl ?_
        refine z_aload_n C dX9_addGap_42 rfl ?_
        refine z_get C O_3 6 rfl (fun _ h9 => hsT _ (inX9 _ h9)) (by decide) (hsT _ tw_1_71) dX9_addGap_43 rfl ?_
        refine z_iload_n C dX9_addGap_46 rfl ?_
        obtain ⟨M47, h47, h⟩ := e_bd h
        refine z_iast C I_17 h47 dX9_addGap_47 ?_
        refine z_aload_n C dX9_addGap_48 rfl ?_
        refine z_get C O_3 4 rfl (fun _ h9 => hsT _ (inX9 _ h9)) (by decide) (hsT _ tw_1_69) dX9_addGap_49 rfl ?_
        refine z_aload_n C dX9_addGap_52 rfl ?_
        refine z_get C O_3 6 rfl (fun _ h9 => hsT _ (inX9 _ h9)) (by decide) (hsT _ tw_1_71) dX9_addGap_53 rfl ?_
        refine z_iload_n C dX9_addGap_56 rfl ?_
        obtain ⟨M57, h57, h⟩ := e_bd h
        refine z_iast C I_18 h57 dX9_addGap_57 ?_
        refine z_aload_n C dX9_addGap_58 rfl ?_
        refine z_dup C dX9_addGap_59 rfl ?_
        refine z_get C O_3 6 rfl (fun _ h9 => hsT _ (inX9 _ h9)) (by decide) (hsT _ tw_1_71) dX9_addGap_60 rfl ?_
        refine z_iconst (1 : Int32) C dX9_addGap_63 (by decide) ?_
        refine z_iadd C dX9_addGap_64 ?_
        obtain ⟨M65, h65, h⟩ := e_bd h
        refine z_puti tyX9 C O_3 6 O_3_6 rfl (fun _ h9 => hsT _ (inX9 _ h9)) tyX9_ok nmX9 (by decide) rfl (Nat.le_of_ble_eq_true rfl) (hsT _ tw_1_71) dX9_addGap_65 rfl h65 ?_
        obtain rfl := Option.some.inj h
        exact z_sub [] rfl hj9
theorem hy_X9_layGaps : yX9_layGaps.cls = RX9 ∧ yX9_layGaps.cls ≠ "java/lang/invoke/MethodHandle" ∧ yX9_layGaps.cls ≠ "java/lang/invoke/VarHandle" ∧ (parseMethodDescriptor yX9_layGaps.desc).map (fun d => d.parameters.length) = some 1 := by decide +kernel
def wX9_layGaps : List Cond := Cond.code yX9_layGaps cX9_layGaps 5 none :: TB
def f_X9_layGaps_L7 : Nat → MM → Int32 → Option (MM)
  | 0, _, _ => none
  | n + 1, M, x2 =>
    (z_div (M 3 5) (2 : Int32)).bind fun (v13 : Int32) =>
    if v13 ≤ x2 then
      some M
    else
      (f_X7_fact M x2 (2 : Int32)).bind fun (v20 : Int32) =>
      (f_X7_fact M x2 (3 : Int32)).bind fun (v27 : Int32) =>
      (f_X9_birth M x2).bind fun (v34 : Int32) =>
      (f_X9_death M x2).bind fun (v38 : Int32) =>
      (f_X9_addGap M v34 v38 (0 : Int32)).bind fun (M42 : MM) =>
      (f_X9_death M42 x2).bind fun (v47 : Int32) =>
      (f_X9_birth M42 x2).bind fun (v51 : Int32) =>
      (f_X9_addGap M42 v47 v51 (-100 : Int32)).bind fun (M56 : MM) =>
      (if v20 = (-1 : Int32) then
        some M56
      else
        (f_X9_birth M56 v20).bind fun (v66 : Int32) =>
        (f_X9_birth M56 x2).bind fun (v70 : Int32) =>
        (f_X9_addGap M56 v66 v70 (15 : Int32)).bind fun (M75 : MM) =>
        (f_X9_birth M75 x2).bind fun (v80 : Int32) =>
        (f_X9_death M75 v20).bind fun (v84 : Int32) =>
        (f_X9_addGap M75 v80 v84 (-1 : Int32)).bind fun (M88 : MM) =>
        some M88
      ).bind fun (j61 : MM) =>
        (if v27 = (-1 : Int32) then
          some j61
        else
          (f_X9_birth j61 v27).bind fun (v100 : Int32) =>
          (f_X9_birth j61 x2).bind fun (v104 : Int32) =>
          (f_X9_addGap j61 v100 v104 (15 : Int32)).bind fun (M109 : MM) =>
          (f_X9_birth M109 x2).bind fun (v114 : Int32) =>
          (f_X9_birth M109 v27).bind fun (v119 : Int32) =>
          (f_X9_addGap M109 v114 v119 (-50 : Int32)).bind fun (M124 : MM) =>
          (f_X9_birth M124 x2).bind fun (v129 : Int32) =>
          (f_X9_death M124 v27).bind fun (v134 : Int32) =>
          (f_X9_addGap M124 v129 v134 (0 : Int32)).bind fun (M138 : MM) =>
          some M138
        ).bind fun (j94 : MM) =>
          f_X9_layGaps_L7 n j94 (x2 + (1 : Int32))
def f_X9_layGaps (M : MM)  : Option MM :=
  (z_stf M 3 6 (0 : Int32)).bind fun (M2 : MM) =>
  (f_X9_layGaps_L7 FU M2 (0 : Int32)).bind fun (w7 : MM) =>
  some w7
set_option maxRecDepth 100000 in
set_option maxHeartbeats 4000000 in
theorem lp_X9_layGaps_7 {l : Launch} {g : Gx} {x : Cx} (C : zC g x l RX9 cX9_layGaps wX9_layGaps (rmm 2 44) 5) {r : MM} : ∀ (n : Nat) (M : MM) (x2 : Int32) , f_X9_layGaps_L7 n M x2 = some r → zJ g x r 147 [] [] → zJ g x M 7 [(0, .ref (ga g 3)), (1, .ref (ga g 1)), (2, .int x2)] [] := by
  intro n
  induction n with
  | zero =>
    intro M x2 h hj
    exact absurd h (by simp [f_X9_layGaps_L7])
  | succ n ih =>
    intro M x2 h hj
    rw [f_X9_layGaps_L7] at h
    refine z_iload_n C dX9_layGaps_7 rfl ?_
    refine z_aload_n C dX9_layGaps_8 rfl ?_
    refine z_get C O_3 5 rfl (fun _ h9 => hsT _ (inX9 _ h9)) (by decide) (hsT _ tw_1_70) dX9_layGaps_9 rfl ?_
    refine z_iconst (2 : Int32) C dX9_layGaps_12 (by decide) ?_
    obtain ⟨v13, h13, h⟩ := e_bd h
    refine z_idiv C h13 dX9_layGaps_13 ?_
    refine z_icmp_ge 147 C dX9_layGaps_14 (by decide) (fun hc => ?_) (fun hc => ?_)
    · have h := e_t hc h
      obtain rfl := Option.some.inj h
      exact z_sub [] rfl hj
    · have h := e_f hc h
      refine z_aload_n C dX9_layGaps_17 rfl ?_
      refine z_iload_n C dX9_layGaps_18 rfl ?_
      refine z_iconst (2 : Int32) C dX9_layGaps_19 (by decide) ?_
      obtain ⟨v20, h20, h⟩ := e_bd h
      refine z_callVi (As := [.int x2, .int (2 : Int32)]) C (c_X7_fact l g h20) rfl O_1 rfl (gcV hsT tw_3_38 cw_X7_fact) rfl rfl rfl hy_X7_fact rfl ⟨Nat.le_of_ble_eq_true rfl, Nat.le_of_ble_eq_true rfl⟩ (Nat.le_of_ble_eq_true rfl) dX9_layGaps_20 ?_
      refine z_istore_n [(3, .int v20), (0, .ref (ga g 3)), (1, .ref (ga g 1)), (2, .int x2)] C dX9_layGaps_23 (by decide) rfl ?_
      refine z_aload_n C dX9_layGaps_24 rfl ?_
      refine z_iload_n C dX9_layGaps_25 rfl ?_
      refine z_iconst (3 : Int32) C dX9_layGaps_26 (by decide) ?_
      obtain ⟨v27, h27, h⟩ := e_bd h
      refine z_callVi (As := [.int x2, .int (3 : Int32)]) C (c_X7_fact l g h27) rfl O_1 rfl (gcV hsT tw_3_38 cw_X7_fact) rfl rfl rfl hy_X7_fact rfl ⟨Nat.le_of_ble_eq_true rfl, Nat.le_of_ble_eq_true rfl⟩ (Nat.le_of_ble_eq_true rfl) dX9_layGaps_27 ?_
      refine z_istore [(4, .int v27), (3, .int v20), (0, .ref (ga g 3)), (1, .ref (ga g 1)), (2, .int x2)] C dX9_layGaps_30 (by decide) rfl ?_
      refine z_aload_n C dX9_layGaps_32 rfl ?_
      refine z_iload_n C dX9_layGaps_33 rfl ?_
      obtain ⟨v34, h34, h⟩ := e_bd h
      refine z_callSi (As := [.int x2]) C (c_X9_birth l g h34) rfl (gcS hsT tw_2_111 cw_X9_birth) rfl rfl rfl hy_X9_birth rfl ⟨Nat.le_of_ble_eq_true rfl, Nat.le_of_ble_eq_true rfl⟩ (Nat.le_of_ble_eq_true rfl) dX9_layGaps_34 ?_
      refine z_iload_n C dX9_layGaps_37 rfl ?_
      obtain ⟨v38, h38, h⟩ := e_bd h
      refine z_callSi (As := [.int x2]) C (c_X9_death l g h38) rfl (gcS hsT tw_2_138 cw_X9_death) rfl rfl rfl hy_X9_death rfl ⟨Nat.le_of_ble_eq_true rfl, Nat.le_of_ble_eq_true rfl⟩ (Nat.le_of_ble_eq_true rfl) dX9_layGaps_38 ?_
      refine z_iconst (0 : Int32) C dX9_layGaps_41 (by decide) ?_
      obtain ⟨M42, h42, h⟩ := e_bd h
      refine z_callVv (As := [.int v34, .int v38, .int (0 : Int32)]) C (c_X9_addGap l g h42) rfl O_3 rfl (gcV hsT tw_3_43 cw_X9_addGap) rfl rfl rfl hy_X9_addGap rfl ⟨Nat.le_of_ble_eq_true rfl, Nat.le_of_ble_eq_true rfl⟩ (Nat.le_of_ble_eq_true rfl) dX9_layGaps_42 ?_
      refine z_aload_n C dX9_layGaps_45 rfl ?_
      refine z_iload_n C dX9_layGaps_46 rfl ?_
      obtain ⟨v47, h47, h⟩ := e_bd h
      refine z_callSi (As := [.int x2]) C (c_X9_death l g h47) rfl (gcS hsT tw_2_138 cw_X9_death) rfl rfl rfl hy_X9_death rfl ⟨Nat.le_of_ble_eq_true rfl, Nat.le_of_ble_eq_true rfl⟩ (Nat.le_of_ble_eq_true rfl) dX9_layGaps_47 ?_
      refine z_iload_n C dX9_layGaps_50 rfl ?_
      obtain ⟨v51, h51, h⟩ := e_bd h
      refine z_callSi (As := [.int x2]) C (c_X9_birth l g h51) rfl (gcS hsT tw_2_111 cw_X9_birth) rfl rfl rfl hy_X9_birth rfl ⟨Nat.le_of_ble_eq_true rfl, Nat.le_of_ble_eq_true rfl⟩ (Nat.le_of_ble_eq_true rfl) dX9_layGaps_51 ?_
      refine z_bipush (-100 : Int32) C dX9_layGaps_54 (by decide) ?_
      obtain ⟨M56, h56, h⟩ := e_bd h
      refine z_callVv (As := [.int v47, .int v51, .int (-100 : Int32)]) C (c_X9_addGap l g h56) rfl O_3 rfl (gcV hsT tw_3_43 cw_X9_addGap) rfl rfl rfl hy_X9_addGap rfl ⟨Nat.le_of_ble_eq_true rfl, Nat.le_of_ble_eq_true rfl⟩ (Nat.le_of_ble_eq_true rfl) dX9_layGaps_56 ?_
      refine z_iload_n C dX9_layGaps_59 rfl ?_
      refine z_iconst (-1 : Int32) C dX9_layGaps_60 (by decide) ?_
      obtain ⟨j61, h61, h⟩ := e_bd h
      have hj61 : zJ g x j61 91 [(0, .ref (ga g 3)), (1, .ref (ga g 1)), (2, .int x2), (4, .int v27)] [] := by
        refine z_iload C dX9_layGaps_91 rfl ?_
        refine z_iconst (-1 : Int32) C dX9_layGaps_93 (by decide) ?_
        obtain ⟨j94, h94, h⟩ := e_bd h
        have hj94 : zJ g x j94 141 [(0, .ref (ga g 3)), (1, .ref (ga g 1)), (2, .int x2)] [] := by
          refine z_iinc (v := (x2 + (1 : Int32))) [(2, .int (x2 + (1 : Int32))), (0, .ref (ga g 3)), (1, .ref (ga g 1))] C dX9_layGaps_141 rfl rfl (by decide) rfl ?_
          refine z_goto 7 C dX9_layGaps_144 (by decide) ?_
          refine z_sub [1, 2, 0] rfl ?_
          exact ih _ _ h hj
        have h := h94
        refine z_icmp_eq 141 C dX9_layGaps_94 (by decide) (fun hc => ?_) (fun hc => ?_)
        · have h := e_t hc h
          obtain rfl := Option.some.inj h
          exact z_sub [0, 1, 2] rfl hj94
        · have h := e_f hc h
          refine z_aload_n C dX9_layGaps_97 rfl ?_
          refine z_iload C dX9_layGaps_98 rfl ?_
          obtain ⟨v100, h100, h⟩ := e_bd h
          refine z_callSi (As := [.int v27]) C (c_X9_birth l g h100) rfl (gcS hsT tw_2_111 cw_X9_birth) rfl rfl rfl hy_X9_birth rfl ⟨Nat.le_of_ble_eq_true rfl, Nat.le_of_ble_eq_true rfl⟩ (Nat.le_of_ble_eq_true rfl) dX9_layGaps_100 ?_
          refine z_iload_n C dX9_layGaps_103 rfl ?_
          obtain ⟨v104, h104, h⟩ := e_bd h
          refine z_callSi (As := [.int x2]) C (c_X9_birth l g h104) rfl (gcS hsT tw_2_111 cw_X9_birth) rfl rfl rfl hy_X9_birth rfl ⟨Nat.le_of_ble_eq_true rfl, Nat.le_of_ble_eq_true rfl⟩ (Nat.le_of_ble_eq_true rfl) dX9_layGaps_104 ?_
          refine z_bipush (15 : Int32) C dX9_layGaps_107 (by decide) ?_
          obtain ⟨M109, h109, h⟩ := e_bd h
          refine z_callVv (As := [.int v100, .int v104, .int (15 : Int32)]) C (c_X9_addGap l g h109) rfl O_3 rfl (gcV hsT tw_3_43 cw_X9_addGap) rfl rfl rfl hy_X9_addGap rfl ⟨Nat.le_of_ble_eq_true rfl, Nat.le_of_ble_eq_true rfl⟩ (Nat.le_of_ble_eq_true rfl) dX9_layGaps_109 ?_
          refine z_aload_n C dX9_layGaps_112 rfl ?_
          refine z_iload_n C dX9_layGaps_113 rfl ?_
          obtain ⟨v114, h114, h⟩ := e_bd h
          refine z_callSi (As := [.int x2]) C (c_X9_birth l g h114) rfl (gcS hsT tw_2_111 cw_X9_birth) rfl rfl rfl hy_X9_birth rfl ⟨Nat.le_of_ble_eq_true rfl, Nat.le_of_ble_eq_true rfl⟩ (Nat.le_of_ble_eq_true rfl) dX9_layGaps_114 ?_
          refine z_iload C dX9_layGaps_117 rfl ?_
          obtain ⟨v119, h119, h⟩ := e_bd h
          refine z_callSi (As := [.int v27]) C (c_X9_birth l g h119) rfl (gcS hsT tw_2_111 cw_X9_birth) rfl rfl rfl hy_X9_birth rfl ⟨Nat.le_of_ble_eq_true rfl, Nat.le_of_ble_eq_true rfl⟩ (Nat.le_of_ble_eq_true rfl) dX9_layGaps_119 ?_
          refine z_bipush (-50 : Int32) C dX9_layGaps_122 (by decide) ?_
          obtain ⟨M124, h124, h⟩ := e_bd h
          refine z_callVv (As := [.int v114, .int v119, .int (-50 : Int32)]) C (c_X9_addGap l g h124) rfl O_3 rfl (gcV hsT tw_3_43 cw_X9_addGap) rfl rfl rfl hy_X9_addGap rfl ⟨Nat.le_of_ble_eq_true rfl, Nat.le_of_ble_eq_true rfl⟩ (Nat.le_of_ble_eq_true rfl) dX9_layGaps_124 ?_
          refine z_aload_n C dX9_layGaps_127 rfl ?_
          refine z_iload_n C dX9_layGaps_128 rfl ?_
          obtain ⟨v129, h129, h⟩ := e_bd h
          refine z_callSi (As := [.int x2]) C (c_X9_birth l g h129) rfl (gcS hsT tw_2_111 cw_X9_birth) rfl rfl rfl hy_X9_birth rfl ⟨Nat.le_of_ble_eq_true rfl, Nat.le_of_ble_eq_true rfl⟩ (Nat.le_of_ble_eq_true rfl) dX9_layGaps_129 ?_
          refine z_iload C dX9_layGaps_132 rfl ?_
          obtain ⟨v134, h134, h⟩ := e_bd h
          refine z_callSi (As := [.int v27]) C (c_X9_death l g h134) rfl (gcS hsT tw_2_138 cw_X9_death) rfl rfl rfl hy_X9_death rfl ⟨Nat.le_of_ble_eq_true rfl, Nat.le_of_ble_eq_true rfl⟩ (Nat.le_of_ble_eq_true rfl) dX9_layGaps_134 ?_
          refine z_iconst (0 : Int32) C dX9_layGaps_137 (by decide) ?_
          obtain ⟨M138, h138, h⟩ := e_bd h
          refine z_callVv (As := [.int v129, .int v134, .int (0 : Int32)]) C (c_X9_addGap l g h138) rfl O_3 rfl (gcV hsT tw_3_43 cw_X9_addGap) rfl rfl rfl hy_X9_addGap rfl ⟨Nat.le_of_ble_eq_true rfl, Nat.le_of_ble_eq_true rfl⟩ (Nat.le_of_ble_eq_true rfl) dX9_layGaps_138 ?_
          obtain rfl := Option.some.inj h
          exact z_sub [0, 1, 2] rfl hj94
      have h := h61
      refine z_icmp_eq 91 C dX9_layGaps_61 (by decide) (fun hc => ?_) (fun hc => ?_)
      · have h := e_t hc h
        obtain rfl := Option.some.inj h
        exact z_sub [2, 3, 4, 0] rfl hj61
      · have h := e_f hc h
        refine z_aload_n C dX9_layGaps_64 rfl ?_
        refine z_iload_n C dX9_layGaps_65 rfl ?_
        obtain ⟨v66, h66, h⟩ := e_bd h
        refine z_callSi (As := [.int v20]) C (c_X9_birth l g h66) rfl (gcS hsT tw_2_111 cw_X9_birth) rfl rfl rfl hy_X9_birth rfl ⟨Nat.le_of_ble_eq_true rfl, Nat.le_of_ble_eq_true rfl⟩ (Nat.le_of_ble_eq_true rfl) dX9_layGaps_66 ?_
        refine z_iload_n C dX9_layGaps_69 rfl ?_
        obtain ⟨v70, h70, h⟩ := e_bd h
        refine z_callSi (As := [.int x2]) C (c_X9_birth l g h70) rfl (gcS hsT tw_2_111 cw_X9_birth) rfl rfl rfl hy_X9_birth rfl ⟨Nat.le_of_ble_eq_true rfl, Nat.le_of_ble_eq_true rfl⟩ (Nat.le_of_ble_eq_true rfl) dX9_layGaps_70 ?_
        refine z_bipush (15 : Int32) C dX9_layGaps_73 (by decide) ?_
        obtain ⟨M75, h75, h⟩ := e_bd h
        refine z_callVv (As := [.int v66, .int v70, .int (15 : Int32)]) C (c_X9_addGap l g h75) rfl O_3 rfl (gcV hsT tw_3_43 cw_X9_addGap) rfl rfl rfl hy_X9_addGap rfl ⟨Nat.le_of_ble_eq_true rfl, Nat.le_of_ble_eq_true rfl⟩ (Nat.le_of_ble_eq_true rfl) dX9_layGaps_75 ?_
        refine z_aload_n C dX9_layGaps_78 rfl ?_
        refine z_iload_n C dX9_layGaps_79 rfl ?_
        obtain ⟨v80, h80, h⟩ := e_bd h
        refine z_callSi (As := [.int x2]) C (c_X9_birth l g h80) rfl (gcS hsT tw_2_111 cw_X9_birth) rfl rfl rfl hy_X9_birth rfl ⟨Nat.le_of_ble_eq_true rfl, Nat.le_of_ble_eq_true rfl⟩ (Nat.le_of_ble_eq_true rfl) dX9_layGaps_80 ?_
        refine z_iload_n C dX9_layGaps_83 rfl ?_
        obtain ⟨v84, h84, h⟩ := e_bd h
        refine z_callSi (As := [.int v20]) C (c_X9_death l g h84) rfl (gcS hsT tw_2_138 cw_X9_death) rfl rfl rfl hy_X9_death rfl ⟨Nat.le_of_ble_eq_true rfl, Nat.le_of_ble_eq_true rfl⟩ (Nat.le_of_ble_eq_true rfl) dX9_layGaps_84 ?_
        refine z_iconst (-1 : Int32) C dX9_layGaps_87 (by decide) ?_
        obtain ⟨M88, h88, h⟩ := e_bd h
        refine z_callVv (As := [.int v80, .int v84, .int (-1 : Int32)]) C (c_X9_addGap l g h88) rfl O_3 rfl (gcV hsT tw_3_43 cw_X9_addGap) rfl rfl rfl hy_X9_addGap rfl ⟨Nat.le_of_ble_eq_true rfl, Nat.le_of_ble_eq_true rfl⟩ (Nat.le_of_ble_eq_true rfl) dX9_layGaps_88 ?_
        obtain rfl := Option.some.inj h
        exact z_sub [2, 3, 4, 0] rfl hj61
set_option maxRecDepth 100000 in
set_option maxHeartbeats 4000000 in
theorem c_X9_layGaps (l : Launch) (g : Gx) {M : MM}  {r : MM} (h : f_X9_layGaps M  = some r) : zMv l yX9_layGaps wX9_layGaps (rmm 2 44) [.ref (ga g 3), .ref (ga g 1)] g M r := by
  refine zMv_of (by decide) rfl (Nat.le_of_ble_eq_true rfl) rfl rfl ?_
  intro x C E
  show zJ g x M 0 [(0, .ref (ga g 3)), (1, .ref (ga g 1))] []
  unfold f_X9_layGaps at h
  refine z_aload_n C dX9_layGaps_0 rfl ?_
  refine z_iconst (0 : Int32) C dX9_layGaps_1 (by decide) ?_
  obtain ⟨M2, h2, h⟩ := e_bd h
  refine z_puti tyX9 C O_3 6 O_3_6 rfl (fun _ h9 => hsT _ (inX9 _ h9)) tyX9_ok nmX9 (by decide) rfl (Nat.le_of_ble_eq_true rfl) (hsT _ tw_1_71) dX9_layGaps_2 rfl h2 ?_
  refine z_iconst (0 : Int32) C dX9_layGaps_5 (by decide) ?_
  refine z_istore_n [(2, .int (0 : Int32)), (0, .ref (ga g 3)), (1, .ref (ga g 1))] C dX9_layGaps_6 (by decide) rfl ?_
  obtain ⟨w7, h7, h⟩ := e_bd h
  refine z_sub [1, 2, 0] rfl ?_
  refine lp_X9_layGaps_7 C _ _ _ h7 ?_
  obtain rfl := Option.some.inj h
  exact z_vret C E dX9_layGaps_147
theorem hy_X9_raiseLeast : yX9_raiseLeast.cls = RX9 ∧ yX9_raiseLeast.cls ≠ "java/lang/invoke/MethodHandle" ∧ yX9_raiseLeast.cls ≠ "java/lang/invoke/VarHandle" ∧ (parseMethodDescriptor yX9_raiseLeast.desc).map (fun d => d.parameters.length) = some 0 := by decide +kernel
def wX9_raiseLeast : List Cond := Cond.code yX9_raiseLeast cX9_raiseLeast 5 (some .boolean) :: TB
def f_X9_raiseLeast_L16 : Nat → MM → Int32 → Int32 → Int32 → Option (MM × Int32)
  | 0, _, _, _, _ => none
  | n + 1, M, x1, x2, x3 =>
    if (M 3 6) ≤ x3 then
      some (M, x1)
    else
      (z_ld M 16 112 x3).bind fun (v33 : Int32) =>
      (z_ld M 14 32 v33).bind fun (v34 : Int32) =>
      (z_ld M 18 112 x3).bind fun (v40 : Int32) =>
      (z_ld M 17 112 x3).bind fun (v55 : Int32) =>
      (z_ld M 14 32 v55).bind fun (v56 : Int32) =>
      (if (v34 + v40) ≤ v56 then
        some (M, x1)
      else
        (z_ld M 17 112 x3).bind fun (v69 : Int32) =>
        (z_sto M 14 32 v69 (v34 + v40)).bind fun (M72 : MM) =>
        some (M72, (1 : Int32))
      ).bind fun (j57 : MM × Int32) =>
        f_X9_raiseLeast_L16 n j57.1 j57.2 x2 (x3 + (1 : Int32))
def f_X9_raiseLeast_L4 : Nat → MM → Int32 → Int32 → Option ((Int32 × MM))
  | 0, _, _, _ => none
  | n + 1, M, x1, x2 =>
    if (M 3 5) ≤ x2 then
      if x1 = 0 then
        z_rz (1 : Int32) M
      else
        z_rz (0 : Int32) M
    else
      (f_X9_raiseLeast_L16 FU M (0 : Int32) x2 (0 : Int32)).bind fun (w16 : MM × Int32) =>
      if w16.2 = 0 then
        z_rz (1 : Int32) w16.1
      else
        f_X9_raiseLeast_L4 n w16.1 w16.2 (x2 + (1 : Int32))
def f_X9_raiseLeast (M : MM)  : Option (Int32 × MM) :=
  f_X9_raiseLeast_L4 FU M (0 : Int32) (0 : Int32)
set_option maxRecDepth 100000 in
set_option maxHeartbeats 4000000 in
theorem lp_X9_raiseLeast_16 {l : Launch} {g : Gx} {x : Cx} (C : zC g x l RX9 cX9_raiseLeast wX9_raiseLeast (rmm 0 0) 5) {r : MM × Int32} : ∀ (n : Nat) (M : MM) (x1 x2 x3 : Int32) , f_X9_raiseLeast_L16 n M x1 x2 x3 = some r → zJ g x r.1 81 [(0, .ref (ga g 3)), (1, .int r.2), (2, .int x2)] [] → zJ g x M 16 [(0, .ref (ga g 3)), (1, .int x1), (2, .int x2), (3, .int x3)] [] := by
  intro n
  induction n with
  | zero =>
    intro M x1 x2 x3 h hj
    exact absurd h (by simp [f_X9_raiseLeast_L16])
  | succ n ih =>
    intro M x1 x2 x3 h hj
    rw [f_X9_raiseLeast_L16] at h
    refine z_iload_n C dX9_raiseLeast_16 rfl ?_
    refine z_aload_n C dX9_raiseLeast_17 rfl ?_
    refine z_get C O_3 6 rfl (fun _ h9 => hsT _ (inX9 _ h9)) (by decide) (hsT _ tw_1_71) dX9_raiseLeast_18 rfl ?_
    refine z_icmp_ge 81 C dX9_raiseLeast_21 (by decide) (fun hc => ?_) (fun hc => ?_)
    · have h := e_t hc h
      obtain rfl := Option.some.inj h
      exact z_sub [0, 1, 2] rfl hj
    · have h := e_f hc h
      refine z_aload_n C dX9_raiseLeast_24 rfl ?_
      refine z_get C O_3 0 rfl (fun _ h9 => hsT _ (inX9 _ h9)) (by decide) (hsT _ tw_1_65) dX9_raiseLeast_25 rfl ?_
      refine z_aload_n C dX9_raiseLeast_28 rfl ?_
      refine z_get C O_3 2 rfl (fun _ h9 => hsT _ (inX9 _ h9)) (by decide) (hsT _ tw_1_67) dX9_raiseLeast_29 rfl ?_
      refine z_iload_n C dX9_raiseLeast_32 rfl ?_
      obtain ⟨v33, h33, h⟩ := e_bd h
      refine z_iald C I_16 h33 dX9_raiseLeast_33 ?_
      obtain ⟨v34, h34, h⟩ := e_bd h
      refine z_iald C I_14 h34 dX9_raiseLeast_34 ?_
      refine z_aload_n C dX9_raiseLeast_35 rfl ?_
      refine z_get C O_3 4 rfl (fun _ h9 => hsT _ (inX9 _ h9)) (by decide) (hsT _ tw_1_69) dX9_raiseLeast_36 rfl ?_
      refine z_iload_n C dX9_raiseLeast_39 rfl ?_
      obtain ⟨v40, h40, h⟩ := e_bd h
      refine z_iald C I_18 h40 dX9_raiseLeast_40 ?_
      refine z_iadd C dX9_raiseLeast_41 ?_
      refine z_istore [(4, .int (v34 + v40)), (0, .ref (ga g 3)), (1, .int x1), (2, .int x2), (3, .int x3)] C dX9_raiseLeast_42 (by decide) rfl ?_
      refine z_iload C dX9_raiseLeast_44 rfl ?_
      refine z_aload_n C dX9_raiseLeast_46 rfl ?_
      refine z_get C O_3 0 rfl (fun _ h9 => hsT _ (inX9 _ h9)) (by decide) (hsT _ tw_1_65) dX9_raiseLeast_47 rfl ?_
      refine z_aload_n C dX9_raiseLeast_50 rfl ?_
      refine z_get C O_3 3 rfl (fun _ h9 => hsT _ (inX9 _ h9)) (by decide) (hsT _ tw_1_68) dX9_raiseLeast_51 rfl ?_
      refine z_iload_n C dX9_raiseLeast_54 rfl ?_
      obtain ⟨v55, h55, h⟩ := e_bd h
      refine z_iald C I_17 h55 dX9_raiseLeast_55 ?_
      obtain ⟨v56, h56, h⟩ := e_bd h
      refine z_iald C I_14 h56 dX9_raiseLeast_56 ?_
      obtain ⟨j57, h57, h⟩ := e_bd h
      have hj57 : zJ g x j57.1 75 [(0, .ref (ga g 3)), (1, .int j57.2), (2, .int x2), (3, .int x3)] [] := by
        refine z_iinc (v := (x3 + (1 : Int32))) [(3, .int (x3 + (1 : Int32))), (0, .ref (ga g 3)), (1, .int j57.2), (2, .int x2)] C dX9_raiseLeast_75 rfl rfl (by decide) rfl ?_
        refine z_goto 16 C dX9_raiseLeast_78 (by decide) ?_
        refine z_sub [1, 2, 3, 0] rfl ?_
        exact ih _ _ _ _ h hj
      have h := h57
      refine z_icmp_le 75 C dX9_raiseLeast_57 (by decide) (fun hc => ?_) (fun hc => ?_)
      · have h := e_t hc h
        obtain rfl := Option.some.inj h
        exact z_sub [1, 2, 3, 4] rfl hj57
      · have h := e_f hc h
        refine z_aload_n C dX9_raiseLeast_60 rfl ?_
        refine z_get C O_3 0 rfl (fun _ h9 => hsT _ (inX9 _ h9)) (by decide) (hsT _ tw_1_65) dX9_raiseLeast_61 rfl ?_
        refine z_aload_n C dX9_raiseLeast_64 rfl ?_
        refine z_get C O_3 3 rfl (fun _ h9 => hsT _ (inX9 _ h9)) (by decide) (hsT _ tw_1_68) dX9_raiseLeast_65 rfl ?_
        refine z_iload_n C dX9_raiseLeast_68 rfl ?_
        obtain ⟨v69, h69, h⟩ := e_bd h
        refine z_iald C I_17 h69 dX9_raiseLeast_69 ?_
        refine z_iload C dX9_raiseLeast_70 rfl ?_
        obtain ⟨M72, h72, h⟩ := e_bd h
        refine z_iast C I_14 h72 dX9_raiseLeast_72 ?_
        refine z_iconst (1 : Int32) C dX9_raiseLeast_73 (by decide) ?_
        refine z_istore_n [(1, .int (1 : Int32)), (4, .int (v34 + v40)), (0, .ref (ga g 3)), (2, .int x2), (3, .int x3)] C dX9_raiseLeast_74 (by decide) rfl ?_
        obtain rfl := Option.some.inj h
        exact z_sub [2, 0, 3, 4] rfl hj57
set_option maxRecDepth 100000 in
set_option maxHeartbeats 4000000 in
theorem lp_X9_raiseLeast_4 {l : Launch} {g : Gx} {x : Cx} (C : zC g x l RX9 cX9_raiseLeast wX9_raiseLeast (rmm 0 0) 5) {r : (Int32 × MM)} : ∀ (n : Nat) (M : MM) (x1 x2 : Int32) , f_X9_raiseLeast_L4 n M x1 x2 = some r → zRi g x .boolean r.1 r.2 → zJ g x M 4 [(0, .ref (ga g 3)), (1, .int x1), (2, .int x2)] [] := by
  intro n
  induction n with
  | zero =>
    intro M x1 x2 h E
    exact absurd h (by simp [f_X9_raiseLeast_L4])
  | succ n ih =>
    intro M x1 x2 h E
    rw [f_X9_raiseLeast_L4] at h
    refine z_iload_n C dX9_raiseLeast_4 rfl ?_
    refine z_aload_n C dX9_raiseLeast_5 rfl ?_
    refine z_get C O_3 5 rfl (fun _ h9 => hsT _ (inX9 _ h9)) (by decide) (hsT _ tw_1_70) dX9_raiseLeast_6 rfl ?_
    refine z_icmp_ge 93 C dX9_raiseLeast_9 (by decide) (fun hc => ?_) (fun hc => ?_)
    · have h := e_t hc h
      refine z_iload_n C dX9_raiseLeast_93 rfl ?_
      refine z_if_ne 101 C dX9_raiseLeast_94 (by decide) (fun hc => ?_) (fun hc => ?_)
      · have h := e_f hc h
        refine z_iconst (0 : Int32) C dX9_raiseLeast_101 (by decide) ?_
        obtain ⟨hz, rfl⟩ := e_rz2 h
        exact z_zret C E hz dX9_raiseLeast_102
      · have h := e_t hc h
        refine z_iconst (1 : Int32) C dX9_raiseLeast_97 (by decide) ?_
        refine z_goto 102 C dX9_raiseLeast_98 (by decide) ?_
        obtain ⟨hz, rfl⟩ := e_rz2 h
        exact z_zret C E hz dX9_raiseLeast_102
    · have h := e_f hc h
      refine z_iconst (0 : Int32) C dX9_raiseLeast_12 (by decide) ?_
      refine z_istore_n [(1, .int (0 : Int32)), (0, .ref (ga g 3)), (2, .int x2)] C dX9_raiseLeast_13 (by decide) rfl ?_
      refine z_iconst (0 : Int32) C dX9_raiseLeast_14 (by decide) ?_
      refine z_istore_n [(3, .int (0 : Int32)), (1, .int (0 : Int32)), (0, .ref (ga g 3)), (2, .int x2)] C dX9_raiseLeast_15 (by decide) rfl ?_
      obtain ⟨w16, h16, h⟩ := e_bd h
      refine z_sub [2, 1, 3, 0] rfl ?_
      refine lp_X9_raiseLeast_16 C _ _ _ _ _ h16 ?_
      refine z_iload_n C dX9_raiseLeast_81 rfl ?_
      refine z_if_ne 87 C dX9_raiseLeast_82 (by decide) (fun hc => ?_) (fun hc => ?_)
      · have h := e_f hc h
        refine z_iinc (v := (x2 + (1 : Int32))) [(2, .int (x2 + (1 : Int32))), (0, .ref (ga g 3)), (1, .int w16.2)] C dX9_raiseLeast_87 rfl rfl (by decide) rfl ?_
        refine z_goto 4 C dX9_raiseLeast_90 (by decide) ?_
        refine z_sub [1, 2, 0] rfl ?_
        exact ih _ _ _ h E
      · have h := e_t hc h
        refine z_iconst (1 : Int32) C dX9_raiseLeast_85 (by decide) ?_
        obtain ⟨hz, rfl⟩ := e_rz2 h
        exact z_zret C E hz dX9_raiseLeast_86
set_option maxRecDepth 100000 in
set_option maxHeartbeats 4000000 in
theorem c_X9_raiseLeast (l : Launch) (g : Gx) {M : MM}  {r : Int32 × MM} (h : f_X9_raiseLeast M  = some r) : zMi l yX9_raiseLeast wX9_raiseLeast (rmm 0 0) [.ref (ga g 3)] g M r.1 r.2 := by
  refine zMi_of .boolean (by decide) rfl (Nat.le_of_ble_eq_true rfl) rfl rfl ?_
  intro x C E
  show zJ g x M 0 [(0, .ref (ga g 3))] []
  unfold f_X9_raiseLeast at h
  refine z_iconst (0 : Int32) C dX9_raiseLeast_0 (by decide) ?_
  refine z_istore_n [(1, .int (0 : Int32)), (0, .ref (ga g 3))] C dX9_raiseLeast_1 (by decide) rfl ?_
  refine z_iconst (0 : Int32) C dX9_raiseLeast_2 (by decide) ?_
  refine z_istore_n [(2, .int (0 : Int32)), (1, .int (0 : Int32)), (0, .ref (ga g 3))] C dX9_raiseLeast_3 (by decide) rfl ?_
  refine z_sub [2, 1, 0] rfl ?_
  exact lp_X9_raiseLeast_4 C _ _ _ _ h E
theorem hy_X9_isCrossed : yX9_isCrossed.cls = RX9 ∧ yX9_isCrossed.cls ≠ "java/lang/invoke/MethodHandle" ∧ yX9_isCrossed.cls ≠ "java/lang/invoke/VarHandle" ∧ (parseMethodDescriptor yX9_isCrossed.desc).map (fun d => d.parameters.length) = some 0 := by decide +kernel
def wX9_isCrossed : List Cond := Cond.code yX9_isCrossed cX9_isCrossed 2 (some .boolean) :: TB
def f_X9_isCrossed_L2 : Nat → MM → Int32 → Option (Int32)
  | 0, _, _ => none
  | n + 1, M, x1 =>
    if (M 3 5) ≤ x1 then
      z_rzp (0 : Int32)
    else
      (z_ld M 14 32 x1).bind fun (v15 : Int32) =>
      (z_ld M 15 32 x1).bind fun (v21 : Int32) =>
      if v15 ≤ v21 then
        f_X9_isCrossed_L2 n M (x1 + (1 : Int32))
      else
        z_rzp (1 : Int32)
def f_X9_isCrossed (M : MM)  : Option Int32 :=
  f_X9_isCrossed_L2 FU M (0 : Int32)
set_option maxRecDepth 100000 in
set_option maxHeartbeats 4000000 in
theorem lp_X9_isCrossed_2 {l : Launch} {g : Gx} {x : Cx} (C : zC g x l RX9 cX9_isCrossed wX9_isCrossed (rmm 0 0) 2) {r : Int32} : ∀ (n : Nat) (M : MM) (x1 : Int32) , f_X9_isCrossed_L2 n M x1 = some r → zRi g x .boolean r M → zJ g x M 2 [(0, .ref (ga g 3)), (1, .int x1)] [] := by
  intro n
  induction n with
  | zero =>
    intro M x1 h E
    exact absurd h (by simp [f_X9_isCrossed_L2])
  | succ n ih =>
    intro M x1 h E
    rw [f_X9_isCrossed_L2] at h
    refine z_iload_n C dX9_isCrossed_2 rfl ?_
    refine z_aload_n C dX9_isCrossed_3 rfl ?_
    refine z_get C O_3 5 rfl (fun _ h9 => hsT _ (inX9 _ h9)) (by decide) (hsT _ tw_1_70) dX9_isCrossed_4 rfl ?_
    refine z_icmp_ge 33 C dX9_isCrossed_7 (by decide) (fun hc => ?_) (fun hc => ?_)
    · have h := e_t hc h
      refine z_iconst (0 : Int32) C dX9_isCrossed_33 (by decide) ?_
      obtain ⟨hz, rfl⟩ := e_rzp h
      exact z_zret C E hz dX9_isCrossed_34
    · have h := e_f hc h
      refine z_aload_n C dX9_isCrossed_10 rfl ?_
      refine z_get C O_3 0 rfl (fun _ h9 => hsT _ (inX9 _ h9)) (by decide) (hsT _ tw_1_65) dX9_isCrossed_11 rfl ?_
      refine z_iload_n C dX9_isCrossed_14 rfl ?_
      obtain ⟨v15, h15, h⟩ := e_bd h
      refine z_iald C I_14 h15 dX9_isCrossed_15 ?_
      refine z_aload_n C dX9_isCrossed_16 rfl ?_
      refine z_get C O_3 1 rfl (fun _ h9 => hsT _ (inX9 _ h9)) (by decide) (hsT _ tw_1_66) dX9_isCrossed_17 rfl ?_
      refine z_iload_n C dX9_isCrossed_20 rfl ?_
      obtain ⟨v21, h21, h⟩ := e_bd h
      refine z_iald C I_15 h21 dX9_isCrossed_21 ?_
      refine z_icmp_le 27 C dX9_isCrossed_22 (by decide) (fun hc => ?_) (fun hc => ?_)
      · have h := e_t hc h
        refine z_iinc (v := (x1 + (1 : Int32))) [(1, .int (x1 + (1 : Int32))), (0, .ref (ga g 3))] C dX9_isCrossed_27 rfl rfl (by decide) rfl ?_
        refine z_goto 2 C dX9_isCrossed_30 (by decide) ?_
        refine z_sub [1, 0] rfl ?_
        exact ih _ _ h E
      · have h := e_f hc h
        refine z_iconst (1 : Int32) C dX9_isCrossed_25 (by decide) ?_
        obtain ⟨hz, rfl⟩ := e_rzp h
        exact z_zret C E hz dX9_isCrossed_26
set_option maxRecDepth 100000 in
set_option maxHeartbeats 4000000 in
theorem c_X9_isCrossed (l : Launch) (g : Gx) {M : MM}  {r : Int32} (h : f_X9_isCrossed M  = some r) : zMi l yX9_isCrossed wX9_isCrossed (rmm 0 0) [.ref (ga g 3)] g M r M := by
  refine zMi_of .boolean (by decide) rfl (Nat.le_of_ble_eq_true rfl) rfl rfl ?_
  intro x C E
  show zJ g x M 0 [(0, .ref (ga g 3))] []
  unfold f_X9_isCrossed at h
  refine z_iconst (0 : Int32) C dX9_isCrossed_0 (by decide) ?_
  refine z_istore_n [(1, .int (0 : Int32)), (0, .ref (ga g 3))] C dX9_isCrossed_1 (by decide) rfl ?_
  refine z_sub [1, 0] rfl ?_
  exact lp_X9_isCrossed_2 C _ _ _ h E
theorem hy_X9_lowerGreatest : yX9_lowerGreatest.cls = RX9 ∧ yX9_lowerGreatest.cls ≠ "java/lang/invoke/MethodHandle" ∧ yX9_lowerGreatest.cls ≠ "java/lang/invoke/VarHandle" ∧ (parseMethodDescriptor yX9_lowerGreatest.desc).map (fun d => d.parameters.length) = some 0 := by decide +kernel
def wX9_lowerGreatest : List Cond := Cond.code yX9_lowerGreatest cX9_lowerGreatest 5 none :: TB
def f_X9_lowerGreatest_L20 : Nat → MM → Int32 → Int32 → Int32 → Option (MM × Int32)
  | 0, _, _, _, _ => none
  | n + 1, M, x1, x2, x3 =>
    if (M 3 6) ≤ x3 then
      some (M, x1)
    else
      (z_ld M 17 112 x3).bind fun (v37 : Int32) =>
      (z_ld M 15 32 v37).bind fun (v38 : Int32) =>
      (z_ld M 18 112 x3).bind fun (v44 : Int32) =>
      (z_ld M 16 112 x3).bind fun (v59 : Int32) =>
      (z_ld M 15 32 v59).bind fun (v60 : Int32) =>
      (if v60 ≤ (v38 - v44) then
        some (M, x1)
      else
        (z_ld M 16 112 x3).bind fun (v73 : Int32) =>
        (z_sto M 15 32 v73 (v38 - v44)).bind fun (M76 : MM) =>
        some (M76, (1 : Int32))
      ).bind fun (j61 : MM × Int32) =>
        f_X9_lowerGreatest_L20 n j61.1 j61.2 x2 (x3 + (1 : Int32))
def f_X9_lowerGreatest_L4 : Nat → MM → Int32 → Int32 → Option (MM)
  | 0, _, _, _ => none
  | n + 1, M, x1, x2 =>
    if (M 3 5) ≤ x2 then
      some M
    else
      if x1 = 0 then
        some M
      else
        (f_X9_lowerGreatest_L20 FU M (0 : Int32) x2 (0 : Int32)).bind fun (w20 : MM × Int32) =>
        f_X9_lowerGreatest_L4 n w20.1 w20.2 (x2 + (1 : Int32))
def f_X9_lowerGreatest (M : MM)  : Option MM :=
  (f_X9_lowerGreatest_L4 FU M (1 : Int32) (0 : Int32)).bind fun (w4 : MM) =>
  some w4
set_option maxRecDepth 100000 in
set_option maxHeartbeats 4000000 in
theorem lp_X9_lowerGreatest_20 {l : Launch} {g : Gx} {x : Cx} (C : zC g x l RX9 cX9_lowerGreatest wX9_lowerGreatest (rmm 0 0) 5) {r : MM × Int32} : ∀ (n : Nat) (M : MM) (x1 x2 x3 : Int32) , f_X9_lowerGreatest_L20 n M x1 x2 x3 = some r → zJ g x r.1 85 [(0, .ref (ga g 3)), (1, .int r.2), (2, .int x2)] [] → zJ g x M 20 [(0, .ref (ga g 3)), (1, .int x1), (2, .int x2), (3, .int x3)] [] := by
  intro n
  induction n with
  | zero =>
    intro M x1 x2 x3 h hj
    exact absurd h (by simp [f_X9_lowerGreatest_L20])
  | succ n ih =>
    intro M x1 x2 x3 h hj
    rw [f_X9_lowerGreatest_L20] at h
    refine z_iload_n C dX9_lowerGreatest_20 rfl ?_
    refine z_aload_n C dX9_lowerGreatest_21 rfl ?_
    refine z_get C O_3 6 rfl (fun _ h9 => hsT _ (inX9 _ h9)) (by decide) (hsT _ tw_1_71) dX9_lowerGreatest_22 rfl ?_
    refine z_icmp_ge 85 C dX9_lowerGreatest_25 (by decide) (fun hc => ?_) (fun hc => ?_)
    · have h := e_t hc h
      obtain rfl := Option.some.inj h
      exact z_sub [0, 1, 2] rfl hj
    · have h := e_f hc h
      refine z_aload_n C dX9_lowerGreatest_28 rfl ?_
      refine z_get C O_3 1 rfl (fun _ h9 => hsT _ (inX9 _ h9)) (by decide) (hsT _ tw_1_66) dX9_lowerGreatest_29 rfl ?_
      refine z_aload_n C dX9_lowerGreatest_32 rfl ?_
      refine z_get C O_3 3 rfl (fun _ h9 => hsT _ (inX9 _ h9)) (by decide) (hsT _ tw_1_68) dX9_lowerGreatest_33 rfl ?_
      refine z_iload_n C dX9_lowerGreatest_36 rfl ?_
      obtain ⟨v37, h37, h⟩ := e_bd h
      refine z_iald C I_17 h37 dX9_lowerGreatest_37 ?_
      obtain ⟨v38, h38, h⟩ := e_bd h
      refine z_iald C I_15 h38 dX9_lowerGreatest_38 ?_
      refine z_aload_n C dX9_lowerGreatest_39 rfl ?_
      refine z_get C O_3 4 rfl (fun _ h9 => hsT _ (inX9 _ h9)) (by decide) (hsT _ tw_1_69) dX9_lowerGreatest_40 rfl ?_
      refine z_iload_n C dX9_lowerGreatest_43 rfl ?_
      obtain ⟨v44, h44, h⟩ := e_bd h
      refine z_iald C I_18 h44 dX9_lowerGreatest_44 ?_
      refine z_isub C dX9_lowerGreatest_45 ?_
      refine z_istore [(4, .int (v38 - v44)), (0, .ref (ga g 3)), (1, .int x1), (2, .int x2), (3, .int x3)] C dX9_lowerGreatest_46 (by decide) rfl ?_
      refine z_iload C dX9_lowerGreatest_48 rfl ?_
      refine z_aload_n C dX9_lowerGreatest_50 rfl ?_
      refine z_get C O_3 1 rfl (fun _ h9 => hsT _ (inX9 _ h9)) (by decide) (hsT _ tw_1_66) dX9_lowerGreatest_51 rfl ?_
      refine z_aload_n C dX9_lowerGreatest_54 rfl ?_
      refine z_get C O_3 2 rfl (fun _ h9 => hsT _ (inX9 _ h9)) (by decide) (hsT _ tw_1_67) dX9_lowerGreatest_55 rfl ?_
      refine z_iload_n C dX9_lowerGreatest_58 rfl ?_
      obtain ⟨v59, h59, h⟩ := e_bd h
      refine z_iald C I_16 h59 dX9_lowerGreatest_59 ?_
      obtain ⟨v60, h60, h⟩ := e_bd h
      refine z_iald C I_15 h60 dX9_lowerGreatest_60 ?_
      obtain ⟨j61, h61, h⟩ := e_bd h
      have hj61 : zJ g x j61.1 79 [(0, .ref (ga g 3)), (1, .int j61.2), (2, .int x2), (3, .int x3)] [] := by
        refine z_iinc (v := (x3 + (1 : Int32))) [(3, .int (x3 + (1 : Int32))), (0, .ref (ga g 3)), (1, .int j61.2), (2, .int x2)] C dX9_lowerGreatest_79 rfl rfl (by decide) rfl ?_
        refine z_goto 20 C dX9_lowerGreatest_82 (by decide) ?_
        refine z_sub [1, 2, 3, 0] rfl ?_
        exact ih _ _ _ _ h hj
      have h := h61
      refine z_icmp_ge 79 C dX9_lowerGreatest_61 (by decide) (fun hc => ?_) (fun hc => ?_)
      · have h := e_t hc h
        obtain rfl := Option.some.inj h
        exact z_sub [1, 2, 3, 4] rfl hj61
      · have h := e_f hc h
        refine z_aload_n C dX9_lowerGreatest_64 rfl ?_
        refine z_get C O_3 1 rfl (fun _ h9 => hsT _ (inX9 _ h9)) (by decide) (hsT _ tw_1_66) dX9_lowerGreatest_65 rfl ?_
        refine z_aload_n C dX9_lowerGreatest_68 rfl ?_
        refine z_get C O_3 2 rfl (fun _ h9 => hsT _ (inX9 _ h9)) (by decide) (hsT _ tw_1_67) dX9_lowerGreatest_69 rfl ?_
        refine z_iload_n C dX9_lowerGreatest_72 rfl ?_
        obtain ⟨v73, h73, h⟩ := e_bd h
        refine z_iald C I_16 h73 dX9_lowerGreatest_73 ?_
        refine z_iload C dX9_lowerGreatest_74 rfl ?_
        obtain ⟨M76, h76, h⟩ := e_bd h
        refine z_iast C I_15 h76 dX9_lowerGreatest_76 ?_
        refine z_iconst (1 : Int32) C dX9_lowerGreatest_77 (by decide) ?_
        refine z_istore_n [(1, .int (1 : Int32)), (4, .int (v38 - v44)), (0, .ref (ga g 3)), (2, .int x2), (3, .int x3)] C dX9_lowerGreatest_78 (by decide) rfl ?_
        obtain rfl := Option.some.inj h
        exact z_sub [2, 0, 3, 4] rfl hj61
set_option maxRecDepth 100000 in
set_option maxHeartbeats 4000000 in
theorem lp_X9_lowerGreatest_4 {l : Launch} {g : Gx} {x : Cx} (C : zC g x l RX9 cX9_lowerGreatest wX9_lowerGreatest (rmm 0 0) 5) {r : MM} : ∀ (n : Nat) (M : MM) (x1 x2 : Int32) , f_X9_lowerGreatest_L4 n M x1 x2 = some r → zJ g x r 91 [] [] → zJ g x M 4 [(0, .ref (ga g 3)), (1, .int x1), (2, .int x2)] [] := by
  intro n
  induction n with
  | zero =>
    intro M x1 x2 h hj
    exact absurd h (by simp [f_X9_lowerGreatest_L4])
  | succ n ih =>
    intro M x1 x2 h hj
    rw [f_X9_lowerGreatest_L4] at h
    refine z_iload_n C dX9_lowerGreatest_4 rfl ?_
    refine z_aload_n C dX9_lowerGreatest_5 rfl ?_
    refine z_get C O_3 5 rfl (fun _ h9 => hsT _ (inX9 _ h9)) (by decide) (hsT _ tw_1_70) dX9_lowerGreatest_6 rfl ?_
    refine z_icmp_ge 91 C dX9_lowerGreatest_9 (by decide) (fun hc => ?_) (fun hc => ?_)
    · have h := e_t hc h
      obtain rfl := Option.some.inj h
      exact z_sub [] rfl hj
    · have h := e_f hc h
      refine z_iload_n C dX9_lowerGreatest_12 rfl ?_
      refine z_if_eq 91 C dX9_lowerGreatest_13 (by decide) (fun hc => ?_) (fun hc => ?_)
      · have h := e_t hc h
        obtain rfl := Option.some.inj h
        exact z_sub [] rfl hj
      · have h := e_f hc h
        refine z_iconst (0 : Int32) C dX9_lowerGreatest_16 (by decide) ?_
        refine z_istore_n [(1, .int (0 : Int32)), (0, .ref (ga g 3)), (2, .int x2)] C dX9_lowerGreatest_17 (by decide) rfl ?_
        refine z_iconst (0 : Int32) C dX9_lowerGreatest_18 (by decide) ?_
        refine z_istore_n [(3, .int (0 : Int32)), (1, .int (0 : Int32)), (0, .ref (ga g 3)), (2, .int x2)] C dX9_lowerGreatest_19 (by decide) rfl ?_
        obtain ⟨w20, h20, h⟩ := e_bd h
        refine z_sub [2, 1, 3, 0] rfl ?_
        refine lp_X9_lowerGreatest_20 C _ _ _ _ _ h20 ?_
        refine z_iinc (v := (x2 + (1 : Int32))) [(2, .int (x2 + (1 : Int32))), (0, .ref (ga g 3)), (1, .int w20.2)] C dX9_lowerGreatest_85 rfl rfl (by decide) rfl ?_
        refine z_goto 4 C dX9_lowerGreatest_88 (by decide) ?_
        refine z_sub [1, 2, 0] rfl ?_
        exact ih _ _ _ h hj
set_option maxRecDepth 100000 in
set_option maxHeartbeats 4000000 in
theorem c_X9_lowerGreatest (l : Launch) (g : Gx) {M : MM}  {r : MM} (h : f_X9_lowerGreatest M  = some r) : zMv l yX9_lowerGreatest wX9_lowerGreatest (rmm 0 0) [.ref (ga g 3)] g M r := by
  refine zMv_of (by decide) rfl (Nat.le_of_ble_eq_true rfl) rfl rfl ?_
  intro x C E
  show zJ g x M 0 [(0, .ref (ga g 3))] []
  unfold f_X9_lowerGreatest at h
  refine z_iconst (1 : Int32) C dX9_lowerGreatest_0 (by decide) ?_
  refine z_istore_n [(1, .int (1 : Int32)), (0, .ref (ga g 3))] C dX9_lowerGreatest_1 (by decide) rfl ?_
  refine z_iconst (0 : Int32) C dX9_lowerGreatest_2 (by decide) ?_
  refine z_istore_n [(2, .int (0 : Int32)), (1, .int (1 : Int32)), (0, .ref (ga g 3))] C dX9_lowerGreatest_3 (by decide) rfl ?_
  obtain ⟨w4, h4, h⟩ := e_bd h
  refine z_sub [2, 1, 0] rfl ?_
  refine lp_X9_lowerGreatest_4 C _ _ _ _ h4 ?_
  obtain rfl := Option.some.inj h
  exact z_vret C E dX9_lowerGreatest_91
theorem hy_X9_reckon : yX9_reckon.cls = RX9 ∧ yX9_reckon.cls ≠ "java/lang/invoke/MethodHandle" ∧ yX9_reckon.cls ≠ "java/lang/invoke/VarHandle" ∧ (parseMethodDescriptor yX9_reckon.desc).map (fun d => d.parameters.length) = some 1 := by decide +kernel
def wX9_reckon : List Cond := Cond.code yX9_reckon cX9_reckon 2 none :: TB
def f_X9_reckon (M : MM)  : Option MM :=
  (f_X7_people M ).bind fun (v3 : Int32) =>
  (z_stf M 3 5 (if (32 : Int32) < ((2 : Int32) * v3) then (32 : Int32) else ((2 : Int32) * v3))).bind fun (M12 : MM) =>
  (f_X9_layBounds M12 ).bind fun (M17 : MM) =>
  (f_X9_layGaps M17 ).bind fun (M22 : MM) =>
  (f_X9_raiseLeast M22 ).bind fun (s27 : Int32 × MM) =>
  (if s27.1 = 0 then
    some (1 : Int32)
  else
    (f_X9_isCrossed s27.2 ).bind fun (v34 : Int32) =>
    if v34 = 0 then
      some (0 : Int32)
    else
      some (1 : Int32)
  ).bind fun (j30 : Int32) =>
    (z_stb s27.2 3 7 j30).bind fun (M45 : MM) =>
    (if (M45 3 7) = 0 then
      (f_X9_lowerGreatest M45 ).bind fun (M56 : MM) =>
      some M56
    else
      some M45
    ).bind fun (j52 : MM) =>
      some j52
set_option maxRecDepth 100000 in
set_option maxHeartbeats 4000000 in
theorem c_X9_reckon (l : Launch) (g : Gx) {M : MM}  {r : MM} (h : f_X9_reckon M  = some r) : zMv l yX9_reckon wX9_reckon (rmm 3 68) [.ref (ga g 3), .ref (ga g 1)] g M r := by
  refine zMv_of (by decide) rfl (Nat.le_of_ble_eq_true rfl) rfl rfl ?_
  intro x C E
  show zJ g x M 0 [(0, .ref (ga g 3)), (1, .ref (ga g 1))] []
  unfold f_X9_reckon at h
  refine z_aload_n C dX9_reckon_0 rfl ?_
  refine z_iconst (2 : Int32) C dX9_reckon_1 (by decide) ?_
  refine z_aload_n C dX9_reckon_2 rfl ?_
  obtain ⟨v3, h3, h⟩ := e_bd h
  refine z_callVi (As := []) C (c_X7_people l g h3) rfl O_1 rfl (gcV hsT tw_3_32 cw_X7_people) rfl rfl rfl hy_X7_people rfl ⟨Nat.le_of_ble_eq_true rfl, Nat.le_of_ble_eq_true rfl⟩ (Nat.le_of_ble_eq_true rfl) dX9_reckon_3 ?_
  refine z_imul C dX9_reckon_6 ?_
  refine z_bipush (32 : Int32) C dX9_reckon_7 (by decide) ?_
  refine z_min C (hsT _ tw_3_33) (hsT _ tw_2_71) (hsT _ tw_1_10) (hsT _ tw_2_72) (by decide) (Nat.le_of_ble_eq_true rfl) dX9_reckon_9 ?_
  obtain ⟨M12, h12, h⟩ := e_bd h
  refine z_puti tyX9 C O_3 5 O_3_5 rfl (fun _ h9 => hsT _ (inX9 _ h9)) tyX9_ok nmX9 (by decide) rfl (Nat.le_of_ble_eq_true rfl) (hsT _ tw_1_70) dX9_reckon_12 rfl h12 ?_
  refine z_aload_n C dX9_reckon_15 rfl ?_
  refine z_aload_n C dX9_reckon_16 rfl ?_
  obtain ⟨M17, h17, h⟩ := e_bd h
  refine z_callVv (As := [.ref (ga g 1)]) C (c_X9_layBounds l g h17) rfl O_3 rfl (gcV hsT tw_3_34 cw_X9_layBounds) rfl rfl rfl hy_X9_layBounds rfl ⟨Nat.le_of_ble_eq_true rfl, Nat.le_of_ble_eq_true rfl⟩ (Nat.le_of_ble_eq_true rfl) dX9_reckon_17 ?_
  refine z_aload_n C dX9_reckon_20 rfl ?_
  refine z_aload_n C dX9_reckon_21 rfl ?_
  obtain ⟨M22, h22, h⟩ := e_bd h
  refine z_callVv (As := [.ref (ga g 1)]) C (c_X9_layGaps l g h22) rfl O_3 rfl (gcV hsT tw_3_39 cw_X9_layGaps) rfl rfl rfl hy_X9_layGaps rfl ⟨Nat.le_of_ble_eq_true rfl, Nat.le_of_ble_eq_true rfl⟩ (Nat.le_of_ble_eq_true rfl) dX9_reckon_22 ?_
  refine z_aload_n C dX9_reckon_25 rfl ?_
  refine z_aload_n C dX9_reckon_26 rfl ?_
  obtain ⟨s27, h27, h⟩ := e_bd h
  refine z_callVi (As := []) C (c_X9_raiseLeast l g h27) rfl O_3 rfl (gcV hsT tw_3_47 cw_X9_raiseLeast) rfl rfl rfl hy_X9_raiseLeast rfl ⟨Nat.le_of_ble_eq_true rfl, Nat.le_of_ble_eq_true rfl⟩ (Nat.le_of_ble_eq_true rfl) dX9_reckon_27 ?_
  obtain ⟨j30, h30, h⟩ := e_bd h
  have hj30 : zJ g x s27.2 45 [(0, .ref (ga g 3))] [.int j30, .ref (ga g 3)] := by
    obtain ⟨M45, h45, h⟩ := e_bd h
    refine z_putz tyX9 C O_3 7 O_3_7 rfl (fun _ h9 => hsT _ (inX9 _ h9)) tyX9_ok nmX9 (by decide) rfl (Nat.le_of_ble_eq_true rfl) (hsT _ tw_1_72) dX9_reckon_45 rfl h45 ?_
    refine z_aload_n C dX9_reckon_48 rfl ?_
    refine z_get C O_3 7 rfl (fun _ h9 => hsT _ (inX9 _ h9)) (by decide) (hsT _ tw_1_72) dX9_reckon_49 rfl ?_
    obtain ⟨j52, h52, h⟩ := e_bd h
    have hj52 : zJ g x j52 59 [] [] := by
      obtain rfl := Option.some.inj h
      exact z_vret C E dX9_reckon_59
    have h := h52
    refine z_if_ne 59 C dX9_reckon_52 (by decide) (fun hc => ?_) (fun hc => ?_)
    · have h := e_f hc h
      obtain rfl := Option.some.inj h
      exact z_sub [] rfl hj52
    · have h := e_t hc h
      refine z_aload_n C dX9_reckon_55 rfl ?_
      obtain ⟨M56, h56, h⟩ := e_bd h
      refine z_callVv (As := []) C (c_X9_lowerGreatest l g h56) rfl O_3 rfl (gcV hsT tw_3_55 cw_X9_lowerGreatest) rfl rfl rfl hy_X9_lowerGreatest rfl ⟨Nat.le_of_ble_eq_true rfl, Nat.le_of_ble_eq_true rfl⟩ (Nat.le_of_ble_eq_true rfl) dX9_reckon_56 ?_
      obtain rfl := Option.some.inj h
      exact z_sub [] rfl hj52
  have h := h30
  refine z_if_eq 40 C dX9_reckon_30 (by decide) (fun hc => ?_) (fun hc => ?_)
  · have h := e_t hc h
    refine z_iconst (1 : Int32) C dX9_reckon_40 (by decide) ?_
    refine z_goto 45 C dX9_reckon_41 (by decide) ?_
    obtain rfl := Option.some.inj h
    exact z_sub [0] rfl hj30
  · have h := e_f hc h
    refine z_aload_n C dX9_reckon_33 rfl ?_
    obtain ⟨v34, h34, h⟩ := e_bd h
    refine z_callVi (As := []) C (c_X9_isCrossed l g h34) rfl O_3 rfl (gcV hsT tw_3_51 cw_X9_isCrossed) rfl rfl rfl hy_X9_isCrossed rfl ⟨Nat.le_of_ble_eq_true rfl, Nat.le_of_ble_eq_true rfl⟩ (Nat.le_of_ble_eq_true rfl) dX9_reckon_34 ?_
    refine z_if_eq 44 C dX9_reckon_37 (by decide) (fun hc => ?_) (fun hc => ?_)
    · have h := e_t hc h
      refine z_iconst (0 : Int32) C dX9_reckon_44 (by decide) ?_
      obtain rfl := Option.some.inj h
      exact z_sub [0] rfl hj30
    · have h := e_f hc h
      refine z_iconst (1 : Int32) C dX9_reckon_40 (by decide) ?_
      refine z_goto 45 C dX9_reckon_41 (by decide) ?_
      obtain rfl := Option.some.inj h
      exact z_sub [0] rfl hj30
theorem hy_X9_spoiledBit : yX9_spoiledBit.cls = RX9 ∧ yX9_spoiledBit.cls ≠ "java/lang/invoke/MethodHandle" ∧ yX9_spoiledBit.cls ≠ "java/lang/invoke/VarHandle" ∧ (parseMethodDescriptor yX9_spoiledBit.desc).map (fun d => d.parameters.length) = some 0 := by decide +kernel
def wX9_spoiledBit : List Cond := Cond.code yX9_spoiledBit cX9_spoiledBit 1 (some .int) :: TB
def f_X9_spoiledBit (M : MM)  : Option Int32 :=
  (if (M 3 7) = 0 then
    some (0 : Int32)
  else
    some (1 : Int32)
  ).bind fun (j4 : Int32) =>
    some j4
set_option maxRecDepth 100000 in
set_option maxHeartbeats 4000000 in
theorem c_X9_spoiledBit (l : Launch) (g : Gx) {M : MM}  {r : Int32} (h : f_X9_spoiledBit M  = some r) : zMi l yX9_spoiledBit wX9_spoiledBit (rmm 0 0) [.ref (ga g 3)] g M r M := by
  refine zMi_of .int (by decide) rfl (Nat.le_of_ble_eq_true rfl) rfl rfl ?_
  intro x C E
  show zJ g x M 0 [(0, .ref (ga g 3))] []
  unfold f_X9_spoiledBit at h
  refine z_aload_n C dX9_spoiledBit_0 rfl ?_
  refine z_get C O_3 7 rfl (fun _ h9 => hsT _ (inX9 _ h9)) (by decide) (hsT _ tw_1_72) dX9_spoiledBit_1 rfl ?_
  obtain ⟨j4, h4, h⟩ := e_bd h
  have hj4 : zJ g x M 12 [] [.int j4] := by
    obtain rfl := Option.some.inj h
    exact z_iret C E dX9_spoiledBit_12
  have h := h4
  refine z_if_eq 11 C dX9_spoiledBit_4 (by decide) (fun hc => ?_) (fun hc => ?_)
  · have h := e_t hc h
    refine z_iconst (0 : Int32) C dX9_spoiledBit_11 (by decide) ?_
    obtain rfl := Option.some.inj h
    exact z_sub [] rfl hj4
  · have h := e_f hc h
    refine z_iconst (1 : Int32) C dX9_spoiledBit_7 (by decide) ?_
    refine z_goto 12 C dX9_spoiledBit_8 (by decide) ?_
    obtain rfl := Option.some.inj h
    exact z_sub [] rfl hj4
theorem hy_X9_isKnown : yX9_isKnown.cls = RX9 ∧ yX9_isKnown.cls ≠ "java/lang/invoke/MethodHandle" ∧ yX9_isKnown.cls ≠ "java/lang/invoke/VarHandle" ∧ (parseMethodDescriptor yX9_isKnown.desc).map (fun d => d.parameters.length) = some 1 := by decide +kernel
def wX9_isKnown : List Cond := Cond.code yX9_isKnown cX9_isKnown 2 (some .boolean) :: TB
def f_X9_isKnown (M : MM) (x1 : Int32) : Option Int32 :=
  (if (M 3 7) = 0 then
    (f_X9_isMoment M x1).bind fun (v9 : Int32) =>
    if v9 = 0 then
      some (0 : Int32)
    else
      some (1 : Int32)
  else
    some (0 : Int32)
  ).bind fun (j4 : Int32) =>
    z_rzp j4
set_option maxRecDepth 100000 in
set_option maxHeartbeats 4000000 in
theorem c_X9_isKnown (l : Launch) (g : Gx) {M : MM} {x1 : Int32} {r : Int32} (h : f_X9_isKnown M x1 = some r) : zMi l yX9_isKnown wX9_isKnown (rmm 1 21) [.ref (ga g 3), .int x1] g M r M := by
  refine zMi_of .boolean (by decide) rfl (Nat.le_of_ble_eq_true rfl) rfl rfl ?_
  intro x C E
  show zJ g x M 0 [(0, .ref (ga g 3)), (1, .int x1)] []
  unfold f_X9_isKnown at h
  refine z_aload_n C dX9_isKnown_0 rfl ?_
  refine z_get C O_3 7 rfl (fun _ h9 => hsT _ (inX9 _ h9)) (by decide) (hsT _ tw_1_72) dX9_isKnown_1 rfl ?_
  obtain ⟨j4, h4, h⟩ := e_bd h
  have hj4 : zJ g x M 20 [] [.int j4] := by
    obtain ⟨hz, rfl⟩ := e_rzp h
    exact z_zret C E hz dX9_isKnown_20
  have h := h4
  refine z_if_ne 19 C dX9_isKnown_4 (by decide) (fun hc => ?_) (fun hc => ?_)
  · have h := e_f hc h
    refine z_iconst (0 : Int32) C dX9_isKnown_19 (by decide) ?_
    obtain rfl := Option.some.inj h
    exact z_sub [] rfl hj4
  · have h := e_t hc h
    refine z_aload_n C dX9_isKnown_7 rfl ?_
    refine z_iload_n C dX9_isKnown_8 rfl ?_
    obtain ⟨v9, h9, h⟩ := e_bd h
    refine z_callVi (As := [.int x1]) C (c_X9_isMoment l g h9) rfl O_3 rfl (gcV hsT tw_2_122 cw_X9_isMoment) rfl rfl rfl hy_X9_isMoment rfl ⟨Nat.le_of_ble_eq_true rfl, Nat.le_of_ble_eq_true rfl⟩ (Nat.le_of_ble_eq_true rfl) dX9_isKnown_9 ?_
    refine z_if_eq 19 C dX9_isKnown_12 (by decide) (fun hc => ?_) (fun hc => ?_)
    · have h := e_t hc h
      refine z_iconst (0 : Int32) C dX9_isKnown_19 (by decide) ?_
      obtain rfl := Option.some.inj h
      exact z_sub [] rfl hj4
    · have h := e_f hc h
      refine z_iconst (1 : Int32) C dX9_isKnown_15 (by decide) ?_
      refine z_goto 20 C dX9_isKnown_16 (by decide) ?_
      obtain rfl := Option.some.inj h
      exact z_sub [] rfl hj4
theorem hy_X9_leastOf : yX9_leastOf.cls = RX9 ∧ yX9_leastOf.cls ≠ "java/lang/invoke/MethodHandle" ∧ yX9_leastOf.cls ≠ "java/lang/invoke/VarHandle" ∧ (parseMethodDescriptor yX9_leastOf.desc).map (fun d => d.parameters.length) = some 1 := by decide +kernel
def wX9_leastOf : List Cond := Cond.code yX9_leastOf cX9_leastOf 2 (some .int) :: TB
def f_X9_leastOf (M : MM) (x1 : Int32) : Option Int32 :=
  (f_X9_isKnown M x1).bind fun (v2 : Int32) =>
  (if v2 = 0 then
    some (-1 : Int32)
  else
    (z_ld M 14 32 x1).bind fun (v13 : Int32) =>
    some v13
  ).bind fun (j5 : Int32) =>
    some j5
set_option maxRecDepth 100000 in
set_option maxHeartbeats 4000000 in
theorem c_X9_leastOf (l : Launch) (g : Gx) {M : MM} {x1 : Int32} {r : Int32} (h : f_X9_leastOf M x1 = some r) : zMi l yX9_leastOf wX9_leastOf (rmm 2 42) [.ref (ga g 3), .int x1] g M r M := by
  refine zMi_of .int (by decide) rfl (Nat.le_of_ble_eq_true rfl) rfl rfl ?_
  intro x C E
  show zJ g x M 0 [(0, .ref (ga g 3)), (1, .int x1)] []
  unfold f_X9_leastOf at h
  refine z_aload_n C dX9_leastOf_0 rfl ?_
  refine z_iload_n C dX9_leastOf_1 rfl ?_
  obtain ⟨v2, h2, h⟩ := e_bd h
  refine z_callVi (As := [.int x1]) C (c_X9_isKnown l g h2) rfl O_3 rfl (gcV hsT tw_2_118 cw_X9_isKnown) rfl rfl rfl hy_X9_isKnown rfl ⟨Nat.le_of_ble_eq_true rfl, Nat.le_of_ble_eq_true rfl⟩ (Nat.le_of_ble_eq_true rfl) dX9_leastOf_2 ?_
  obtain ⟨j5, h5, h⟩ := e_bd h
  have hj5 : zJ g x M 18 [] [.int j5] := by
    obtain rfl := Option.some.inj h
    exact z_iret C E dX9_leastOf_18
  have h := h5
  refine z_if_eq 17 C dX9_leastOf_5 (by decide) (fun hc => ?_) (fun hc => ?_)
  · have h := e_t hc h
    refine z_iconst (-1 : Int32) C dX9_leastOf_17 (by decide) ?_
    obtain rfl := Option.some.inj h
    exact z_sub [] rfl hj5
  · have h := e_f hc h
    refine z_aload_n C dX9_leastOf_8 rfl ?_
    refine z_get C O_3 0 rfl (fun _ h9 => hsT _ (inX9 _ h9)) (by decide) (hsT _ tw_1_65) dX9_leastOf_9 rfl ?_
    refine z_iload_n C dX9_leastOf_12 rfl ?_
    obtain ⟨v13, h13, h⟩ := e_bd h
    refine z_iald C I_14 h13 dX9_leastOf_13 ?_
    refine z_goto 18 C dX9_leastOf_14 (by decide) ?_
    obtain rfl := Option.some.inj h
    exact z_sub [] rfl hj5
theorem hy_X9_greatestOf : yX9_greatestOf.cls = RX9 ∧ yX9_greatestOf.cls ≠ "java/lang/invoke/MethodHandle" ∧ yX9_greatestOf.cls ≠ "java/lang/invoke/VarHandle" ∧ (parseMethodDescriptor yX9_greatestOf.desc).map (fun d => d.parameters.length) = some 1 := by decide +kernel
def wX9_greatestOf : List Cond := Cond.code yX9_greatestOf cX9_greatestOf 2 (some .int) :: TB
def f_X9_greatestOf (M : MM) (x1 : Int32) : Option Int32 :=
  (f_X9_isKnown M x1).bind fun (v2 : Int32) =>
  (if v2 = 0 then
    some (-1 : Int32)
  else
    (z_ld M 15 32 x1).bind fun (v13 : Int32) =>
    some v13
  ).bind fun (j5 : Int32) =>
    some j5
set_option maxRecDepth 100000 in
set_option maxHeartbeats 4000000 in
theorem c_X9_greatestOf (l : Launch) (g : Gx) {M : MM} {x1 : Int32} {r : Int32} (h : f_X9_greatestOf M x1 = some r) : zMi l yX9_greatestOf wX9_greatestOf (rmm 2 42) [.ref (ga g 3), .int x1] g M r M := by
  refine zMi_of .int (by decide) rfl (Nat.le_of_ble_eq_true rfl) rfl rfl ?_
  intro x C E
  show zJ g x M 0 [(0, .ref (ga g 3)), (1, .int x1)] []
  unfold f_X9_greatestOf at h
  refine z_aload_n C dX9_greatestOf_0 rfl ?_
  refine z_iload_n C dX9_greatestOf_1 rfl ?_
  obtain ⟨v2, h2, h⟩ := e_bd h
  refine z_callVi (As := [.int x1]) C (c_X9_isKnown l g h2) rfl O_3 rfl (gcV hsT tw_2_118 cw_X9_isKnown) rfl rfl rfl hy_X9_isKnown rfl ⟨Nat.le_of_ble_eq_true rfl, Nat.le_of_ble_eq_true rfl⟩ (Nat.le_of_ble_eq_true rfl) dX9_greatestOf_2 ?_
  obtain ⟨j5, h5, h⟩ := e_bd h
  have hj5 : zJ g x M 18 [] [.int j5] := by
    obtain rfl := Option.some.inj h
    exact z_iret C E dX9_greatestOf_18
  have h := h5
  refine z_if_eq 17 C dX9_greatestOf_5 (by decide) (fun hc => ?_) (fun hc => ?_)
  · have h := e_t hc h
    refine z_iconst (-1 : Int32) C dX9_greatestOf_17 (by decide) ?_
    obtain rfl := Option.some.inj h
    exact z_sub [] rfl hj5
  · have h := e_f hc h
    refine z_aload_n C dX9_greatestOf_8 rfl ?_
    refine z_get C O_3 1 rfl (fun _ h9 => hsT _ (inX9 _ h9)) (by decide) (hsT _ tw_1_66) dX9_greatestOf_9 rfl ?_
    refine z_iload_n C dX9_greatestOf_12 rfl ?_
    obtain ⟨v13, h13, h⟩ := e_bd h
    refine z_iald C I_15 h13 dX9_greatestOf_13 ?_
    refine z_goto 18 C dX9_greatestOf_14 (by decide) ?_
    obtain rfl := Option.some.inj h
    exact z_sub [] rfl hj5
theorem hy_X9_leastBirth : yX9_leastBirth.cls = RX9 ∧ yX9_leastBirth.cls ≠ "java/lang/invoke/MethodHandle" ∧ yX9_leastBirth.cls ≠ "java/lang/invoke/VarHandle" ∧ (parseMethodDescriptor yX9_leastBirth.desc).map (fun d => d.parameters.length) = some 1 := by decide +kernel
def wX9_leastBirth : List Cond := Cond.code yX9_leastBirth cX9_leastBirth 2 (some .int) :: TB
def f_X9_leastBirth (M : MM) (x1 : Int32) : Option Int32 :=
  (f_X9_birth M x1).bind fun (v2 : Int32) =>
  (f_X9_leastOf M v2).bind fun (v5 : Int32) =>
  some v5
set_option maxRecDepth 100000 in
set_option maxHeartbeats 4000000 in
theorem c_X9_leastBirth (l : Launch) (g : Gx) {M : MM} {x1 : Int32} {r : Int32} (h : f_X9_leastBirth M x1 = some r) : zMi l yX9_leastBirth wX9_leastBirth (rmm 3 63) [.ref (ga g 3), .int x1] g M r M := by
  refine zMi_of .int (by decide) rfl (Nat.le_of_ble_eq_true rfl) rfl rfl ?_
  intro x C E
  show zJ g x M 0 [(0, .ref (ga g 3)), (1, .int x1)] []
  unfold f_X9_leastBirth at h
  refine z_aload_n C dX9_leastBirth_0 rfl ?_
  refine z_iload_n C dX9_leastBirth_1 rfl ?_
  obtain ⟨v2, h2, h⟩ := e_bd h
  refine z_callSi (As := [.int x1]) C (c_X9_birth l g h2) rfl (gcS hsT tw_2_111 cw_X9_birth) rfl rfl rfl hy_X9_birth rfl ⟨Nat.le_of_ble_eq_true rfl, Nat.le_of_ble_eq_true rfl⟩ (Nat.le_of_ble_eq_true rfl) dX9_leastBirth_2 ?_
  obtain ⟨v5, h5, h⟩ := e_bd h
  refine z_callVi (As := [.int v2]) C (c_X9_leastOf l g h5) rfl O_3 rfl (gcV hsT tw_2_114 cw_X9_leastOf) rfl rfl rfl hy_X9_leastOf rfl ⟨Nat.le_of_ble_eq_true rfl, Nat.le_of_ble_eq_true rfl⟩ (Nat.le_of_ble_eq_true rfl) dX9_leastBirth_5 ?_
  obtain rfl := Option.some.inj h
  exact z_iret C E dX9_leastBirth_8
theorem hy_X9_greatestBirth : yX9_greatestBirth.cls = RX9 ∧ yX9_greatestBirth.cls ≠ "java/lang/invoke/MethodHandle" ∧ yX9_greatestBirth.cls ≠ "java/lang/invoke/VarHandle" ∧ (parseMethodDescriptor yX9_greatestBirth.desc).map (fun d => d.parameters.length) = some 1 := by decide +kernel
def wX9_greatestBirth : List Cond := Cond.code yX9_greatestBirth cX9_greatestBirth 2 (some .int) :: TB
def f_X9_greatestBirth (M : MM) (x1 : Int32) : Option Int32 :=
  (f_X9_birth M x1).bind fun (v2 : Int32) =>
  (f_X9_greatestOf M v2).bind fun (v5 : Int32) =>
  some v5
set_option maxRecDepth 100000 in
set_option maxHeartbeats 4000000 in
theorem c_X9_greatestBirth (l : Launch) (g : Gx) {M : MM} {x1 : Int32} {r : Int32} (h : f_X9_greatestBirth M x1 = some r) : zMi l yX9_greatestBirth wX9_greatestBirth (rmm 3 63) [.ref (ga g 3), .int x1] g M r M := by
  refine zMi_of .int (by decide) rfl (Nat.le_of_ble_eq_true rfl) rfl rfl ?_
  intro x C E
  show zJ g x M 0 [(0, .ref (ga g 3)), (1, .int x1)] []
  unfold f_X9_greatestBirth at h
  refine z_aload_n C dX9_greatestBirth_0 rfl ?_
  refine z_iload_n C dX9_greatestBirth_1 rfl ?_
  obtain ⟨v2, h2, h⟩ := e_bd h
  refine z_callSi (As := [.int x1]) C (c_X9_birth l g h2) rfl (gcS hsT tw_2_111 cw_X9_birth) rfl rfl rfl hy_X9_birth rfl ⟨Nat.le_of_ble_eq_true rfl, Nat.le_of_ble_eq_true rfl⟩ (Nat.le_of_ble_eq_true rfl) dX9_greatestBirth_2 ?_
  obtain ⟨v5, h5, h⟩ := e_bd h
  refine z_callVi (As := [.int v2]) C (c_X9_greatestOf l g h5) rfl O_3 rfl (gcV hsT tw_2_130 cw_X9_greatestOf) rfl rfl rfl hy_X9_greatestOf rfl ⟨Nat.le_of_ble_eq_true rfl, Nat.le_of_ble_eq_true rfl⟩ (Nat.le_of_ble_eq_true rfl) dX9_greatestBirth_5 ?_
  obtain rfl := Option.some.inj h
  exact z_iret C E dX9_greatestBirth_8
theorem hy_X9_leastDeath : yX9_leastDeath.cls = RX9 ∧ yX9_leastDeath.cls ≠ "java/lang/invoke/MethodHandle" ∧ yX9_leastDeath.cls ≠ "java/lang/invoke/VarHandle" ∧ (parseMethodDescriptor yX9_leastDeath.desc).map (fun d => d.parameters.length) = some 1 := by decide +kernel
def wX9_leastDeath : List Cond := Cond.code yX9_leastDeath cX9_leastDeath 2 (some .int) :: TB
def f_X9_leastDeath (M : MM) (x1 : Int32) : Option Int32 :=
  (f_X9_death M x1).bind fun (v2 : Int32) =>
  (f_X9_leastOf M v2).bind fun (v5 : Int32) =>
  some v5
set_option maxRecDepth 100000 in
set_option maxHeartbeats 4000000 in
theorem c_X9_leastDeath (l : Launch) (g : Gx) {M : MM} {x1 : Int32} {r : Int32} (h : f_X9_leastDeath M x1 = some r) : zMi l yX9_leastDeath wX9_leastDeath (rmm 3 63) [.ref (ga g 3), .int x1] g M r M := by
  refine zMi_of .int (by decide) rfl (Nat.le_of_ble_eq_true rfl) rfl rfl ?_
  intro x C E
  show zJ g x M 0 [(0, .ref (ga g 3)), (1, .int x1)] []
  unfold f_X9_leastDeath at h
  refine z_aload_n C dX9_leastDeath_0 rfl ?_
  refine z_iload_n C dX9_leastDeath_1 rfl ?_
  obtain ⟨v2, h2, h⟩ := e_bd h
  refine z_callSi (As := [.int x1]) C (c_X9_death l g h2) rfl (gcS hsT tw_2_138 cw_X9_death) rfl rfl rfl hy_X9_death rfl ⟨Nat.le_of_ble_eq_true rfl, Nat.le_of_ble_eq_true rfl⟩ (Nat.le_of_ble_eq_true rfl) dX9_leastDeath_2 ?_
  obtain ⟨v5, h5, h⟩ := e_bd h
  refine z_callVi (As := [.int v2]) C (c_X9_leastOf l g h5) rfl O_3 rfl (gcV hsT tw_2_114 cw_X9_leastOf) rfl rfl rfl hy_X9_leastOf rfl ⟨Nat.le_of_ble_eq_true rfl, Nat.le_of_ble_eq_true rfl⟩ (Nat.le_of_ble_eq_true rfl) dX9_leastDeath_5 ?_
  obtain rfl := Option.some.inj h
  exact z_iret C E dX9_leastDeath_8
theorem hy_X9_greatestDeath : yX9_greatestDeath.cls = RX9 ∧ yX9_greatestDeath.cls ≠ "java/lang/invoke/MethodHandle" ∧ yX9_greatestDeath.cls ≠ "java/lang/invoke/VarHandle" ∧ (parseMethodDescriptor yX9_greatestDeath.desc).map (fun d => d.parameters.length) = some 1 := by decide +kernel
def wX9_greatestDeath : List Cond := Cond.code yX9_greatestDeath cX9_greatestDeath 2 (some .int) :: TB
def f_X9_greatestDeath (M : MM) (x1 : Int32) : Option Int32 :=
  (f_X9_death M x1).bind fun (v2 : Int32) =>
  (f_X9_greatestOf M v2).bind fun (v5 : Int32) =>
  some v5
set_option maxRecDepth 100000 in
set_option maxHeartbeats 4000000 in
theorem c_X9_greatestDeath (l : Launch) (g : Gx) {M : MM} {x1 : Int32} {r : Int32} (h : f_X9_greatestDeath M x1 = some r) : zMi l yX9_greatestDeath wX9_greatestDeath (rmm 3 63) [.ref (ga g 3), .int x1] g M r M := by
  refine zMi_of .int (by decide) rfl (Nat.le_of_ble_eq_true rfl) rfl rfl ?_
  intro x C E
  show zJ g x M 0 [(0, .ref (ga g 3)), (1, .int x1)] []
  unfold f_X9_greatestDeath at h
  refine z_aload_n C dX9_greatestDeath_0 rfl ?_
  refine z_iload_n C dX9_greatestDeath_1 rfl ?_
  obtain ⟨v2, h2, h⟩ := e_bd h
  refine z_callSi (As := [.int x1]) C (c_X9_death l g h2) rfl (gcS hsT tw_2_138 cw_X9_death) rfl rfl rfl hy_X9_death rfl ⟨Nat.le_of_ble_eq_true rfl, Nat.le_of_ble_eq_true rfl⟩ (Nat.le_of_ble_eq_true rfl) dX9_greatestDeath_2 ?_
  obtain ⟨v5, h5, h⟩ := e_bd h
  refine z_callVi (As := [.int v2]) C (c_X9_greatestOf l g h5) rfl O_3 rfl (gcV hsT tw_2_130 cw_X9_greatestOf) rfl rfl rfl hy_X9_greatestOf rfl ⟨Nat.le_of_ble_eq_true rfl, Nat.le_of_ble_eq_true rfl⟩ (Nat.le_of_ble_eq_true rfl) dX9_greatestDeath_5 ?_
  obtain rfl := Option.some.inj h
  exact z_iret C E dX9_greatestDeath_8
theorem hy_X9_diedBetween : yX9_diedBetween.cls = RX9 ∧ yX9_diedBetween.cls ≠ "java/lang/invoke/MethodHandle" ∧ yX9_diedBetween.cls ≠ "java/lang/invoke/VarHandle" ∧ (parseMethodDescriptor yX9_diedBetween.desc).map (fun d => d.parameters.length) = some 3 := by decide +kernel
def wX9_diedBetween : List Cond := Cond.code yX9_diedBetween cX9_diedBetween 6 (some .int) :: TB
def f_X9_diedBetween_L6 : Nat → MM → Int32 → Int32 → Int32 → Int32 → Int32 → Option (Int32)
  | 0, _, _, _, _, _, _ => none
  | n + 1, M, x1, x2, x3, x4, x5 =>
    if x1 ≤ x5 then
      some x4
    else
      if (M 3 7) = 0 then
        (f_X9_leastDeath M x5).bind fun (v22 : Int32) =>
        (if x3 < v22 then
          some x4
        else
          (f_X9_greatestDeath M x5).bind fun (v32 : Int32) =>
          if v32 < x2 then
            some x4
          else
            some (x4 ||| ((1 : Int32) <<< (x5 &&& 31)))
        ).bind fun (j26 : Int32) =>
          f_X9_diedBetween_L6 n M x1 x2 x3 j26 (x5 + (1 : Int32))
      else
        some x4
def f_X9_diedBetween (M : MM) (x1 : Int32) (x2 : Int32) (x3 : Int32) : Option Int32 :=
  (f_X9_diedBetween_L6 FU M x1 x2 x3 (0 : Int32) (0 : Int32)).bind fun (w6 : Int32) =>
  some w6
set_option maxRecDepth 100000 in
set_option maxHeartbeats 4000000 in
theorem lp_X9_diedBetween_6 {l : Launch} {g : Gx} {x : Cx} (C : zC g x l RX9 cX9_diedBetween wX9_diedBetween (rmm 4 84) 6) {r : Int32} : ∀ (n : Nat) (M : MM) (x1 x2 x3 x4 x5 : Int32) , f_X9_diedBetween_L6 n M x1 x2 x3 x4 x5 = some r → zJ g x M 54 [(4, .int r)] [] → zJ g x M 6 [(0, .ref (ga g 3)), (1, .int x1), (2, .int x2), (3, .int x3), (4, .int x4), (5, .int x5)] [] := by
  intro n
  induction n with
  | zero =>
    intro M x1 x2 x3 x4 x5 h hj
    exact absurd h (by simp [f_X9_diedBetween_L6])
  | succ n ih =>
    intro M x1 x2 x3 x4 x5 h hj
    rw [f_X9_diedBetween_L6] at h
    refine z_iload C dX9_diedBetween_6 rfl ?_
    refine z_iload_n C dX9_diedBetween_8 rfl ?_
    refine z_icmp_ge 54 C dX9_diedBetween_9 (by decide) (fun hc => ?_) (fun hc => ?_)
    · have h := e_t hc h
      obtain rfl := Option.some.inj h
      exact z_sub [4] rfl hj
    · have h := e_f hc h
      refine z_aload_n C dX9_diedBetween_12 rfl ?_
      refine z_get C O_3 7 rfl (fun _ h9 => hsT _ (inX9 _ h9)) (by decide) (hsT _ tw_1_72) dX9_diedBetween_13 rfl ?_
      refine z_if_ne 54 C dX9_diedBetween_16 (by decide) (fun hc => ?_) (fun hc => ?_)
      · have h := e_f hc h
        obtain rfl := Option.some.inj h
        exact z_sub [4] rfl hj
      · have h := e_t hc h
        refine z_aload_n C dX9_diedBetween_19 rfl ?_
        refine z_iload C dX9_diedBetween_20 rfl ?_
        obtain ⟨v22, h22, h⟩ := e_bd h
        refine z_callVi (As := [.int x5]) C (c_X9_leastDeath l g h22) rfl O_3 rfl (gcV hsT tw_2_214 cw_X9_leastDeath) rfl rfl rfl hy_X9_leastDeath rfl ⟨Nat.le_of_ble_eq_true rfl, Nat.le_of_ble_eq_true rfl⟩ (Nat.le_of_ble_eq_true rfl) dX9_diedBetween_22 ?_
        refine z_iload_n C dX9_diedBetween_25 rfl ?_
        obtain ⟨j26, h26, h⟩ := e_bd h
        have hj26 : zJ g x M 48 [(0, .ref (ga g 3)), (1, .int x1), (2, .int x2), (3, .int x3), (4, .int j26), (5, .int x5)] [] := by
          refine z_iinc (v := (x5 + (1 : Int32))) [(5, .int (x5 + (1 : Int32))), (0, .ref (ga g 3)), (1, .int x1), (2, .int x2), (3, .int x3), (4, .int j26)] C dX9_diedBetween_48 rfl rfl (by decide) rfl ?_
          refine z_goto 6 C dX9_diedBetween_51 (by decide) ?_
          refine z_sub [1, 2, 3, 4, 5, 0] rfl ?_
          exact ih _ _ _ _ _ _ h hj
        have h := h26
        refine z_icmp_gt 48 C dX9_diedBetween_26 (by decide) (fun hc => ?_) (fun hc => ?_)
        · have h := e_t hc h
          obtain rfl := Option.some.inj h
          exact z_sub [0, 1, 2, 3, 4, 5] rfl hj26
        · have h := e_f hc h
          refine z_aload_n C dX9_diedBetween_29 rfl ?_
          refine z_iload C dX9_diedBetween_30 rfl ?_
          obtain ⟨v32, h32, h⟩ := e_bd h
          refine z_callVi (As := [.int x5]) C (c_X9_greatestDeath l g h32) rfl O_3 rfl (gcV hsT tw_2_215 cw_X9_greatestDeath) rfl rfl rfl hy_X9_greatestDeath rfl ⟨Nat.le_of_ble_eq_true rfl, Nat.le_of_ble_eq_true rfl⟩ (Nat.le_of_ble_eq_true rfl) dX9_diedBetween_32 ?_
          refine z_iload_n C dX9_diedBetween_35 rfl ?_
          refine z_icmp_lt 48 C dX9_diedBetween_36 (by decide) (fun hc => ?_) (fun hc => ?_)
          · have h := e_t hc h
            obtain rfl := Option.some.inj h
            exact z_sub [0, 1, 2, 3, 4, 5] rfl hj26
          · have h := e_f hc h
            refine z_iload C dX9_diedBetween_39 rfl ?_
            refine z_iconst (1 : Int32) C dX9_diedBetween_41 (by decide) ?_
            refine z_iload C dX9_diedBetween_42 rfl ?_
            refine z_ishl C dX9_diedBetween_44 ?_
            refine z_ior C dX9_diedBetween_45 ?_
            refine z_istore [(4, .int (x4 ||| ((1 : Int32) <<< (x5 &&& 31)))), (0, .ref (ga g 3)), (1, .int x1), (2, .int x2), (3, .int x3), (5, .int x5)] C dX9_diedBetween_46 (by decide) rfl ?_
            obtain rfl := Option.some.inj h
            exact z_sub [1, 2, 3, 4, 0, 5] rfl hj26
set_option maxRecDepth 100000 in
set_option maxHeartbeats 4000000 in
theorem c_X9_diedBetween (l : Launch) (g : Gx) {M : MM} {x1 : Int32} {x2 : Int32} {x3 : Int32} {r : Int32} (h : f_X9_diedBetween M x1 x2 x3 = some r) : zMi l yX9_diedBetween wX9_diedBetween (rmm 4 84) [.ref (ga g 3), .int x1, .int x2, .int x3] g M r M := by
  refine zMi_of .int (by decide) rfl (Nat.le_of_ble_eq_true rfl) rfl rfl ?_
  intro x C E
  show zJ g x M 0 [(0, .ref (ga g 3)), (1, .int x1), (2, .int x2), (3, .int x3)] []
  unfold f_X9_diedBetween at h
  refine z_iconst (0 : Int32) C dX9_diedBetween_0 (by decide) ?_
  refine z_istore [(4, .int (0 : Int32)), (0, .ref (ga g 3)), (1, .int x1), (2, .int x2), (3, .int x3)] C dX9_diedBetween_1 (by decide) rfl ?_
  refine z_iconst (0 : Int32) C dX9_diedBetween_3 (by decide) ?_
  refine z_istore [(5, .int (0 : Int32)), (4, .int (0 : Int32)), (0, .ref (ga g 3)), (1, .int x1), (2, .int x2), (3, .int x3)] C dX9_diedBetween_4 (by decide) rfl ?_
  obtain ⟨w6, h6, h⟩ := e_bd h
  refine z_sub [2, 3, 4, 5, 1, 0] rfl ?_
  refine lp_X9_diedBetween_6 C _ _ _ _ _ _ _ h6 ?_
  refine z_iload C dX9_diedBetween_54 rfl ?_
  obtain rfl := Option.some.inj h
  exact z_iret C E dX9_diedBetween_56
