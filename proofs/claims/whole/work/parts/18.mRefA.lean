theorem hy_X11_in : yX11_in.cls ≠ "java/lang/invoke/MethodHandle" ∧ yX11_in.cls ≠ "java/lang/invoke/VarHandle" ∧ (parseMethodDescriptor yX11_in.desc).map (fun d => d.parameters.length) = some 3 := by decide +kernel
def wX11_in : List Cond := Cond.code yX11_in cX11_in 6 (some .boolean) :: TB
def f_X11_in (M : MM) (x0 : Int64) (x2 : Int64) (x4 : Int64) : Option Int32 :=
  (if (lg_cmp x0 x2) < 0 then
    some (0 : Int32)
  else
    if 0 < (lg_cmp x0 x4) then
      some (0 : Int32)
    else
      some (1 : Int32)
  ).bind fun (j3 : Int32) =>
    z_rzp j3
set_option maxRecDepth 100000 in
set_option maxHeartbeats 4000000 in
theorem c_X11_in (l : Launch) (g : Gx) {M : MM} {x0 : Int64} {x2 : Int64} {x4 : Int64} {r : Int32} (h : f_X11_in M x0 x2 x4 = some r) : zMi l yX11_in wX11_in (rmm 0 0) [.long x0, .long x2, .long x4] g M r M := by
  refine zMi_of .boolean (by decide) rfl (Nat.le_of_ble_eq_true rfl) rfl rfl ?_
  intro x C E
  show zJ g x M 0 [(0, .long x0), (2, .long x2), (4, .long x4)] []
  unfold f_X11_in at h
  refine z_lload_n C dX11_in_0 rfl ?_
  refine z_lload_n C dX11_in_1 rfl ?_
  refine z_lcmp C dX11_in_2 ?_
  obtain ⟨j3, h3, h⟩ := e_bd h
  have hj3 : zJ g x M 18 [] [.int j3] := by
    obtain ⟨hz, rfl⟩ := e_rzp h
    exact z_zret C E hz dX11_in_18
  have h := h3
  refine z_if_lt 17 C dX11_in_3 (by decide) (fun hc => ?_) (fun hc => ?_)
  · have h := e_t hc h
    refine z_iconst (0 : Int32) C dX11_in_17 (by decide) ?_
    obtain rfl := Option.some.inj h
    exact z_sub [] rfl hj3
  · have h := e_f hc h
    refine z_lload_n C dX11_in_6 rfl ?_
    refine z_lload C dX11_in_7 rfl ?_
    refine z_lcmp C dX11_in_9 ?_
    refine z_if_gt 17 C dX11_in_10 (by decide) (fun hc => ?_) (fun hc => ?_)
    · have h := e_t hc h
      refine z_iconst (0 : Int32) C dX11_in_17 (by decide) ?_
      obtain rfl := Option.some.inj h
      exact z_sub [] rfl hj3
    · have h := e_f hc h
      refine z_iconst (1 : Int32) C dX11_in_13 (by decide) ?_
      refine z_goto 18 C dX11_in_14 (by decide) ?_
      obtain rfl := Option.some.inj h
      exact z_sub [] rfl hj3
theorem hy_X11_copy : yX11_copy.cls = RX11 ∧ yX11_copy.cls ≠ "java/lang/invoke/MethodHandle" ∧ yX11_copy.cls ≠ "java/lang/invoke/VarHandle" ∧ (parseMethodDescriptor yX11_copy.desc).map (fun d => d.parameters.length) = some 2 := by decide +kernel
def wX11_copy : List Cond := Cond.code yX11_copy cX11_copy 4 none :: TB
def f_X11_copy_L2 : Nat → MM → Int32 → Int32 → Int32 → Option (MM)
  | 0, _, _, _, _ => none
  | n + 1, M, x1, x2, x3 =>
    if (141 : Int32) ≤ x3 then
      some M
    else
      (z_ld M 32 3243 (x1 + x3)).bind fun (v23 : Int32) =>
      (z_sto M 32 3243 (x2 + x3) v23).bind fun (M24 : MM) =>
      f_X11_copy_L2 n M24 x1 x2 (x3 + (1 : Int32))
def f_X11_copy (M : MM) (x1 : Int32) (x2 : Int32) : Option MM :=
  (f_X11_copy_L2 FU M x1 x2 (0 : Int32)).bind fun (w2 : MM) =>
  some w2
set_option maxRecDepth 100000 in
set_option maxHeartbeats 4000000 in
theorem lp_X11_copy_2 {l : Launch} {g : Gx} {x : Cx} (C : zC g x l RX11 cX11_copy wX11_copy (rmm 0 0) 4) {r : MM} : ∀ (n : Nat) (M : MM) (x1 x2 x3 : Int32) , f_X11_copy_L2 n M x1 x2 x3 = some r → zJ g x r 31 [] [] → zJ g x M 2 [(0, .ref (ga g 31)), (1, .int x1), (2, .int x2), (3, .int x3)] [] := by
  intro n
  induction n with
  | zero =>
    intro M x1 x2 x3 h hj
    exact absurd h (by simp [f_X11_copy_L2])
  | succ n ih =>
    intro M x1 x2 x3 h hj
    rw [f_X11_copy_L2] at h
    refine z_iload_n C dX11_copy_2 rfl ?_
    refine z_sipush (141 : Int32) C dX11_copy_3 (by decide) ?_
    refine z_icmp_ge 31 C dX11_copy_6 (by decide) (fun hc => ?_) (fun hc => ?_)
    · have h := e_t hc h
      obtain rfl := Option.some.inj h
      exact z_sub [] rfl hj
    · have h := e_f hc h
      refine z_aload_n C dX11_copy_9 rfl ?_
      refine z_get C O_31 0 rfl (fun _ h9 => hsT _ (inX11 _ h9)) (by decide) (hsT _ tw_3_175) dX11_copy_10 rfl ?_
      refine z_iload_n C dX11_copy_13 rfl ?_
      refine z_iload_n C dX11_copy_14 rfl ?_
      refine z_iadd C dX11_copy_15 ?_
      refine z_aload_n C dX11_copy_16 rfl ?_
      refine z_get C O_31 0 rfl (fun _ h9 => hsT _ (inX11 _ h9)) (by decide) (hsT _ tw_3_175) dX11_copy_17 rfl ?_
      refine z_iload_n C dX11_copy_20 rfl ?_
      refine z_iload_n C dX11_copy_21 rfl ?_
      refine z_iadd C dX11_copy_22 ?_
      obtain ⟨v23, h23, h⟩ := e_bd h
      refine z_iald C I_32 h23 dX11_copy_23 ?_
      obtain ⟨M24, h24, h⟩ := e_bd h
      refine z_iast C I_32 h24 dX11_copy_24 ?_
      refine z_iinc (v := (x3 + (1 : Int32))) [(3, .int (x3 + (1 : Int32))), (0, .ref (ga g 31)), (1, .int x1), (2, .int x2)] C dX11_copy_25 rfl rfl (by decide) rfl ?_
      refine z_goto 2 C dX11_copy_28 (by decide) ?_
      refine z_sub [1, 2, 3, 0] rfl ?_
      exact ih _ _ _ _ h hj
set_option maxRecDepth 100000 in
set_option maxHeartbeats 4000000 in
theorem c_X11_copy (l : Launch) (g : Gx) {M : MM} {x1 : Int32} {x2 : Int32} {r : MM} (h : f_X11_copy M x1 x2 = some r) : zMv l yX11_copy wX11_copy (rmm 0 0) [.ref (ga g 31), .int x1, .int x2] g M r := by
  refine zMv_of (by decide) rfl (Nat.le_of_ble_eq_true rfl) rfl rfl ?_
  intro x C E
  show zJ g x M 0 [(0, .ref (ga g 31)), (1, .int x1), (2, .int x2)] []
  unfold f_X11_copy at h
  refine z_iconst (0 : Int32) C dX11_copy_0 (by decide) ?_
  refine z_istore_n [(3, .int (0 : Int32)), (0, .ref (ga g 31)), (1, .int x1), (2, .int x2)] C dX11_copy_1 (by decide) rfl ?_
  obtain ⟨w2, h2, h⟩ := e_bd h
  refine z_sub [1, 2, 3, 0] rfl ?_
  refine lp_X11_copy_2 C _ _ _ _ _ h2 ?_
  obtain rfl := Option.some.inj h
  exact z_vret C E dX11_copy_31
theorem hy_X11_minds : yX11_minds.cls = RX11 ∧ yX11_minds.cls ≠ "java/lang/invoke/MethodHandle" ∧ yX11_minds.cls ≠ "java/lang/invoke/VarHandle" ∧ (parseMethodDescriptor yX11_minds.desc).map (fun d => d.parameters.length) = some 0 := by decide +kernel
def wX11_minds : List Cond := Cond.code yX11_minds cX11_minds 2 none :: TB
def f_X11_minds_L11 : Nat → MM → Int32 → Option (MM)
  | 0, _, _ => none
  | n + 1, M, x1 =>
    if (2679 : Int32) ≤ x1 then
      some M
    else
      (z_ld M 32 3243 (((423 : Int32) + x1) + (141 : Int32))).bind fun (v40 : Int32) =>
      (z_sto M 32 3243 ((423 : Int32) + x1) v40).bind fun (M41 : MM) =>
      f_X11_minds_L11 n M41 (x1 + (1 : Int32))
def f_X11_minds_T58 (M : MM)  : Option MM :=
  (f_X11_copy M (0 : Int32) ((423 : Int32) + ((141 : Int32) * (M 31 3)))).bind fun (M72 : MM) =>
  (z_stf M72 31 3 ((M72 31 3) + (1 : Int32))).bind fun (M82 : MM) =>
  some M82
def f_X11_minds (M : MM)  : Option MM :=
  (if (M 31 3) = (20 : Int32) then
    (f_X11_minds_L11 FU M (0 : Int32)).bind fun (w11 : MM) =>
    (z_stf w11 31 3 ((w11 31 3) - (1 : Int32))).bind fun (M55 : MM) =>
    some M55
  else
    some M
  ).bind fun (j6 : MM) =>
    f_X11_minds_T58 j6 
set_option maxRecDepth 100000 in
set_option maxHeartbeats 4000000 in
theorem lp_X11_minds_11 {l : Launch} {g : Gx} {x : Cx} (C : zC g x l RX11 cX11_minds wX11_minds (rmm 1 23) 2) {r : MM} : ∀ (n : Nat) (M : MM) (x1 : Int32) , f_X11_minds_L11 n M x1 = some r → zJ g x r 48 [(0, .ref (ga g 31))] [] → zJ g x M 11 [(0, .ref (ga g 31)), (1, .int x1)] [] := by
  intro n
  induction n with
  | zero =>
    intro M x1 h hj
    exact absurd h (by simp [f_X11_minds_L11])
  | succ n ih =>
    intro M x1 h hj
    rw [f_X11_minds_L11] at h
    refine z_iload_n C dX11_minds_11 rfl ?_
    refine z_sipush (2679 : Int32) C dX11_minds_12 (by decide) ?_
    refine z_icmp_ge 48 C dX11_minds_15 (by decide) (fun hc => ?_) (fun hc => ?_)
    · have h := e_t hc h
      obtain rfl := Option.some.inj h
      exact z_sub [0] rfl hj
    · have h := e_f hc h
      refine z_aload_n C dX11_minds_18 rfl ?_
      refine z_get C O_31 0 rfl (fun _ h9 => hsT _ (inX11 _ h9)) (by decide) (hsT _ tw_3_175) dX11_minds_19 rfl ?_
      refine z_sipush (423 : Int32) C dX11_minds_22 (by decide) ?_
      refine z_iload_n C dX11_minds_25 rfl ?_
      refine z_iadd C dX11_minds_26 ?_
      refine z_aload_n C dX11_minds_27 rfl ?_
      refine z_get C O_31 0 rfl (fun _ h9 => hsT _ (inX11 _ h9)) (by decide) (hsT _ tw_3_175) dX11_minds_28 rfl ?_
      refine z_sipush (423 : Int32) C dX11_minds_31 (by decide) ?_
      refine z_iload_n C dX11_minds_34 rfl ?_
      refine z_iadd C dX11_minds_35 ?_
      refine z_sipush (141 : Int32) C dX11_minds_36 (by decide) ?_
      refine z_iadd C dX11_minds_39 ?_
      obtain ⟨v40, h40, h⟩ := e_bd h
      refine z_iald C I_32 h40 dX11_minds_40 ?_
      obtain ⟨M41, h41, h⟩ := e_bd h
      refine z_iast C I_32 h41 dX11_minds_41 ?_
      refine z_iinc (v := (x1 + (1 : Int32))) [(1, .int (x1 + (1 : Int32))), (0, .ref (ga g 31))] C dX11_minds_42 rfl rfl (by decide) rfl ?_
      refine z_goto 11 C dX11_minds_45 (by decide) ?_
      refine z_sub [1, 0] rfl ?_
      exact ih _ _ h hj
set_option maxRecDepth 100000 in
set_option maxHeartbeats 4000000 in
theorem tl_X11_minds_58 {l : Launch} {g : Gx} {x : Cx} (C : zC g x l RX11 cX11_minds wX11_minds (rmm 1 23) 2) {M : MM}  {r : MM} (h : f_X11_minds_T58 M  = some r) (E : zRv g x r) : zJ g x M 58 [(0, .ref (ga g 31))] [] := by
  unfold f_X11_minds_T58 at h
  refine z_aload_n C dX11_minds_58 rfl ?_
  refine z_iconst (0 : Int32) C dX11_minds_59 (by decide) ?_
  refine z_sipush (423 : Int32) C dX11_minds_60 (by decide) ?_
  refine z_sipush (141 : Int32) C dX11_minds_63 (by decide) ?_
  refine z_aload_n C dX11_minds_66 rfl ?_
  refine z_get C O_31 3 rfl (fun _ h9 => hsT _ (inX11 _ h9)) (by decide) (hsT _ tw_3_178) dX11_minds_67 rfl ?_
  refine z_imul C dX11_minds_70 ?_
  refine z_iadd C dX11_minds_71 ?_
  obtain ⟨M72, h72, h⟩ := e_bd h
  refine z_callVv (As := [.int (0 : Int32), .int ((423 : Int32) + ((141 : Int32) * (M 31 3)))]) C (c_X11_copy l g h72) rfl O_31 rfl (gcV hsT tw_4_141 cw_X11_copy) rfl rfl rfl hy_X11_copy rfl ⟨Nat.le_of_ble_eq_true rfl, Nat.le_of_ble_eq_true rfl⟩ (Nat.le_of_ble_eq_true rfl) dX11_minds_72 ?_
  refine z_aload_n C dX11_minds_75 rfl ?_
  refine z_dup C dX11_minds_76 rfl ?_
  refine z_get C O_31 3 rfl (fun _ h9 => hsT _ (inX11 _ h9)) (by decide) (hsT _ tw_3_178) dX11_minds_77 rfl ?_
  refine z_iconst (1 : Int32) C dX11_minds_80 (by decide) ?_
  refine z_iadd C dX11_minds_81 ?_
  obtain ⟨M82, h82, h⟩ := e_bd h
  refine z_puti tyX11 C O_31 3 O_31_3 rfl (fun _ h9 => hsT _ (inX11 _ h9)) tyX11_ok nmX11 (by decide) rfl (Nat.le_of_ble_eq_true rfl) (hsT _ tw_3_178) dX11_minds_82 rfl h82 ?_
  obtain rfl := Option.some.inj h
  exact z_vret C E dX11_minds_85
set_option maxRecDepth 100000 in
set_option maxHeartbeats 4000000 in
theorem c_X11_minds (l : Launch) (g : Gx) {M : MM}  {r : MM} (h : f_X11_minds M  = some r) : zMv l yX11_minds wX11_minds (rmm 1 23) [.ref (ga g 31)] g M r := by
  refine zMv_of (by decide) rfl (Nat.le_of_ble_eq_true rfl) rfl rfl ?_
  intro x C E
  show zJ g x M 0 [(0, .ref (ga g 31))] []
  unfold f_X11_minds at h
  refine z_aload_n C dX11_minds_0 rfl ?_
  refine z_get C O_31 3 rfl (fun _ h9 => hsT _ (inX11 _ h9)) (by decide) (hsT _ tw_3_178) dX11_minds_1 rfl ?_
  refine z_bipush (20 : Int32) C dX11_minds_4 (by decide) ?_
  obtain ⟨j6, h6, h⟩ := e_bd h
  have hj6 : zJ g x j6 58 [(0, .ref (ga g 31))] [] := by
    refine z_sub [0] rfl ?_
    exact tl_X11_minds_58 C h E
  have h := h6
  refine z_icmp_ne 58 C dX11_minds_6 (by decide) (fun hc => ?_) (fun hc => ?_)
  · have h := e_f hc h
    obtain rfl := Option.some.inj h
    exact z_sub [0] rfl hj6
  · have h := e_t hc h
    refine z_iconst (0 : Int32) C dX11_minds_9 (by decide) ?_
    refine z_istore_n [(1, .int (0 : Int32)), (0, .ref (ga g 31))] C dX11_minds_10 (by decide) rfl ?_
    obtain ⟨w11, h11, h⟩ := e_bd h
    refine z_sub [1, 0] rfl ?_
    refine lp_X11_minds_11 C _ _ _ h11 ?_
    refine z_aload_n C dX11_minds_48 rfl ?_
    refine z_dup C dX11_minds_49 rfl ?_
    refine z_get C O_31 3 rfl (fun _ h9 => hsT _ (inX11 _ h9)) (by decide) (hsT _ tw_3_178) dX11_minds_50 rfl ?_
    refine z_iconst (1 : Int32) C dX11_minds_53 (by decide) ?_
    refine z_isub C dX11_minds_54 ?_
    obtain ⟨M55, h55, h⟩ := e_bd h
    refine z_puti tyX11 C O_31 3 O_31_3 rfl (fun _ h9 => hsT _ (inX11 _ h9)) tyX11_ok nmX11 (by decide) rfl (Nat.le_of_ble_eq_true rfl) (hsT _ tw_3_178) dX11_minds_55 rfl h55 ?_
    obtain rfl := Option.some.inj h
    exact z_sub [0] rfl hj6
theorem hy_X11_isOne : yX11_isOne.cls = RX11 ∧ yX11_isOne.cls ≠ "java/lang/invoke/MethodHandle" ∧ yX11_isOne.cls ≠ "java/lang/invoke/VarHandle" ∧ (parseMethodDescriptor yX11_isOne.desc).map (fun d => d.parameters.length) = some 1 := by decide +kernel
def wX11_isOne : List Cond := Cond.code yX11_isOne cX11_isOne 2 (some .boolean) :: TB
def f_X11_isOne (M : MM) (x1 : Int32) : Option Int32 :=
  (z_ld M 32 3243 (0 : Int32)).bind fun (v8 : Int32) =>
  (f_X11_in M x1.toInt64 (0 : Int64) (v8 - (1 : Int32)).toInt64).bind fun (v12 : Int32) =>
  z_rzp v12
set_option maxRecDepth 100000 in
set_option maxHeartbeats 4000000 in
theorem c_X11_isOne (l : Launch) (g : Gx) {M : MM} {x1 : Int32} {r : Int32} (h : f_X11_isOne M x1 = some r) : zMi l yX11_isOne wX11_isOne (rmm 1 25) [.ref (ga g 31), .int x1] g M r M := by
  refine zMi_of .boolean (by decide) rfl (Nat.le_of_ble_eq_true rfl) rfl rfl ?_
  intro x C E
  show zJ g x M 0 [(0, .ref (ga g 31)), (1, .int x1)] []
  unfold f_X11_isOne at h
  refine z_iload_n C dX11_isOne_0 rfl ?_
  refine z_i2l C dX11_isOne_1 ?_
  refine z_lconst (0 : Int64) C dX11_isOne_2 (by decide) ?_
  refine z_aload_n C dX11_isOne_3 rfl ?_
  refine z_get C O_31 0 rfl (fun _ h9 => hsT _ (inX11 _ h9)) (by decide) (hsT _ tw_3_175) dX11_isOne_4 rfl ?_
  refine z_iconst (0 : Int32) C dX11_isOne_7 (by decide) ?_
  obtain ⟨v8, h8, h⟩ := e_bd h
  refine z_iald C I_32 h8 dX11_isOne_8 ?_
  refine z_iconst (1 : Int32) C dX11_isOne_9 (by decide) ?_
  refine z_isub C dX11_isOne_10 ?_
  refine z_i2l C dX11_isOne_11 ?_
  obtain ⟨v12, h12, h⟩ := e_bd h
  refine z_callSi (As := [.long x1.toInt64, .long (0 : Int64), .long (v8 - (1 : Int32)).toInt64]) C (c_X11_in l g h12) rfl (gcS hsT tw_4_10 cw_X11_in) rfl rfl rfl hy_X11_in rfl ⟨Nat.le_of_ble_eq_true rfl, Nat.le_of_ble_eq_true rfl⟩ (Nat.le_of_ble_eq_true rfl) dX11_isOne_12 ?_
  obtain ⟨hz, rfl⟩ := e_rzp h
  exact z_zret C E hz dX11_isOne_15
theorem hy_X11_isMan : yX11_isMan.cls = RX11 ∧ yX11_isMan.cls ≠ "java/lang/invoke/MethodHandle" ∧ yX11_isMan.cls ≠ "java/lang/invoke/VarHandle" ∧ (parseMethodDescriptor yX11_isMan.desc).map (fun d => d.parameters.length) = some 1 := by decide +kernel
def wX11_isMan : List Cond := Cond.code yX11_isMan cX11_isMan 2 (some .boolean) :: TB
def f_X11_isMan (M : MM) (x1 : Int32) : Option Int32 :=
  (f_X11_isOne M x1).bind fun (v2 : Int32) =>
  (if v2 = 0 then
    some (0 : Int32)
  else
    (z_ld M 32 3243 ((13 : Int32) + x1)).bind fun (v16 : Int32) =>
    if v16 = 0 then
      some (1 : Int32)
    else
      some (0 : Int32)
  ).bind fun (j5 : Int32) =>
    z_rzp j5
set_option maxRecDepth 100000 in
set_option maxHeartbeats 4000000 in
theorem c_X11_isMan (l : Launch) (g : Gx) {M : MM} {x1 : Int32} {r : Int32} (h : f_X11_isMan M x1 = some r) : zMi l yX11_isMan wX11_isMan (rmm 2 46) [.ref (ga g 31), .int x1] g M r M := by
  refine zMi_of .boolean (by decide) rfl (Nat.le_of_ble_eq_true rfl) rfl rfl ?_
  intro x C E
  show zJ g x M 0 [(0, .ref (ga g 31)), (1, .int x1)] []
  unfold f_X11_isMan at h
  refine z_aload_n C dX11_isMan_0 rfl ?_
  refine z_iload_n C dX11_isMan_1 rfl ?_
  obtain ⟨v2, h2, h⟩ := e_bd h
  refine z_callVi (As := [.int x1]) C (c_X11_isOne l g h2) rfl O_31 rfl (gcV hsT tw_4_6 cw_X11_isOne) rfl rfl rfl hy_X11_isOne rfl ⟨Nat.le_of_ble_eq_true rfl, Nat.le_of_ble_eq_true rfl⟩ (Nat.le_of_ble_eq_true rfl) dX11_isMan_2 ?_
  obtain ⟨j5, h5, h⟩ := e_bd h
  have hj5 : zJ g x M 25 [] [.int j5] := by
    obtain ⟨hz, rfl⟩ := e_rzp h
    exact z_zret C E hz dX11_isMan_25
  have h := h5
  refine z_if_eq 24 C dX11_isMan_5 (by decide) (fun hc => ?_) (fun hc => ?_)
  · have h := e_t hc h
    refine z_iconst (0 : Int32) C dX11_isMan_24 (by decide) ?_
    obtain rfl := Option.some.inj h
    exact z_sub [] rfl hj5
  · have h := e_f hc h
    refine z_aload_n C dX11_isMan_8 rfl ?_
    refine z_get C O_31 0 rfl (fun _ h9 => hsT _ (inX11 _ h9)) (by decide) (hsT _ tw_3_175) dX11_isMan_9 rfl ?_
    refine z_bipush (13 : Int32) C dX11_isMan_12 (by decide) ?_
    refine z_iload_n C dX11_isMan_14 rfl ?_
    refine z_iadd C dX11_isMan_15 ?_
    obtain ⟨v16, h16, h⟩ := e_bd h
    refine z_iald C I_32 h16 dX11_isMan_16 ?_
    refine z_if_ne 24 C dX11_isMan_17 (by decide) (fun hc => ?_) (fun hc => ?_)
    · have h := e_f hc h
      refine z_iconst (0 : Int32) C dX11_isMan_24 (by decide) ?_
      obtain rfl := Option.some.inj h
      exact z_sub [] rfl hj5
    · have h := e_t hc h
      refine z_iconst (1 : Int32) C dX11_isMan_20 (by decide) ?_
      refine z_goto 25 C dX11_isMan_21 (by decide) ?_
      obtain rfl := Option.some.inj h
      exact z_sub [] rfl hj5
theorem hy_X11_isWoman : yX11_isWoman.cls = RX11 ∧ yX11_isWoman.cls ≠ "java/lang/invoke/MethodHandle" ∧ yX11_isWoman.cls ≠ "java/lang/invoke/VarHandle" ∧ (parseMethodDescriptor yX11_isWoman.desc).map (fun d => d.parameters.length) = some 1 := by decide +kernel
def wX11_isWoman : List Cond := Cond.code yX11_isWoman cX11_isWoman 2 (some .boolean) :: TB
def f_X11_isWoman (M : MM) (x1 : Int32) : Option Int32 :=
  (f_X11_isOne M x1).bind fun (v2 : Int32) =>
  (if v2 = 0 then
    some (0 : Int32)
  else
    (z_ld M 32 3243 ((13 : Int32) + x1)).bind fun (v16 : Int32) =>
    if v16 = (1 : Int32) then
      some (1 : Int32)
    else
      some (0 : Int32)
  ).bind fun (j5 : Int32) =>
    z_rzp j5
set_option maxRecDepth 100000 in
set_option maxHeartbeats 4000000 in
theorem c_X11_isWoman (l : Launch) (g : Gx) {M : MM} {x1 : Int32} {r : Int32} (h : f_X11_isWoman M x1 = some r) : zMi l yX11_isWoman wX11_isWoman (rmm 2 46) [.ref (ga g 31), .int x1] g M r M := by
  refine zMi_of .boolean (by decide) rfl (Nat.le_of_ble_eq_true rfl) rfl rfl ?_
  intro x C E
  show zJ g x M 0 [(0, .ref (ga g 31)), (1, .int x1)] []
  unfold f_X11_isWoman at h
  refine z_aload_n C dX11_isWoman_0 rfl ?_
  refine z_iload_n C dX11_isWoman_1 rfl ?_
  obtain ⟨v2, h2, h⟩ := e_bd h
  refine z_callVi (As := [.int x1]) C (c_X11_isOne l g h2) rfl O_31 rfl (gcV hsT tw_4_6 cw_X11_isOne) rfl rfl rfl hy_X11_isOne rfl ⟨Nat.le_of_ble_eq_true rfl, Nat.le_of_ble_eq_true rfl⟩ (Nat.le_of_ble_eq_true rfl) dX11_isWoman_2 ?_
  obtain ⟨j5, h5, h⟩ := e_bd h
  have hj5 : zJ g x M 26 [] [.int j5] := by
    obtain ⟨hz, rfl⟩ := e_rzp h
    exact z_zret C E hz dX11_isWoman_26
  have h := h5
  refine z_if_eq 25 C dX11_isWoman_5 (by decide) (fun hc => ?_) (fun hc => ?_)
  · have h := e_t hc h
    refine z_iconst (0 : Int32) C dX11_isWoman_25 (by decide) ?_
    obtain rfl := Option.some.inj h
    exact z_sub [] rfl hj5
  · have h := e_f hc h
    refine z_aload_n C dX11_isWoman_8 rfl ?_
    refine z_get C O_31 0 rfl (fun _ h9 => hsT _ (inX11 _ h9)) (by decide) (hsT _ tw_3_175) dX11_isWoman_9 rfl ?_
    refine z_bipush (13 : Int32) C dX11_isWoman_12 (by decide) ?_
    refine z_iload_n C dX11_isWoman_14 rfl ?_
    refine z_iadd C dX11_isWoman_15 ?_
    obtain ⟨v16, h16, h⟩ := e_bd h
    refine z_iald C I_32 h16 dX11_isWoman_16 ?_
    refine z_iconst (1 : Int32) C dX11_isWoman_17 (by decide) ?_
    refine z_icmp_ne 25 C dX11_isWoman_18 (by decide) (fun hc => ?_) (fun hc => ?_)
    · have h := e_f hc h
      refine z_iconst (0 : Int32) C dX11_isWoman_25 (by decide) ?_
      obtain rfl := Option.some.inj h
      exact z_sub [] rfl hj5
    · have h := e_t hc h
      refine z_iconst (1 : Int32) C dX11_isWoman_21 (by decide) ?_
      refine z_goto 26 C dX11_isWoman_22 (by decide) ?_
      obtain rfl := Option.some.inj h
      exact z_sub [] rfl hj5
theorem hy_X11_isHeir : yX11_isHeir.cls = RX11 ∧ yX11_isHeir.cls ≠ "java/lang/invoke/MethodHandle" ∧ yX11_isHeir.cls ≠ "java/lang/invoke/VarHandle" ∧ (parseMethodDescriptor yX11_isHeir.desc).map (fun d => d.parameters.length) = some 1 := by decide +kernel
def wX11_isHeir : List Cond := Cond.code yX11_isHeir cX11_isHeir 4 (some .boolean) :: TB
def f_X11_isHeir_L29 : Nat → MM → Int32 → Int32 → Int32 → Option (Int32)
  | 0, _, _, _, _ => none
  | n + 1, M, x1, x2, x3 =>
    (z_ld M 32 3243 (0 : Int32)).bind fun (v35 : Int32) =>
    if v35 ≤ x3 then
      some x2
    else
      if x2 = 0 then
        some x2
      else
        (z_ld M 32 3243 ((13 : Int32) + x3)).bind fun (v51 : Int32) =>
        (if v51 = (1 : Int32) then
          some (1 : Int32)
        else
          (z_ld M 32 3243 ((45 : Int32) + x3)).bind fun (v64 : Int32) =>
          (z_ld M 32 3243 ((45 : Int32) + x1)).bind fun (v73 : Int32) =>
          if v64 = v73 then
            some (0 : Int32)
          else
            some (1 : Int32)
        ).bind fun (j53 : Int32) =>
          f_X11_isHeir_L29 n M x1 j53 (x3 + (1 : Int32))
def f_X11_isHeir (M : MM) (x1 : Int32) : Option Int32 :=
  (f_X11_isWoman M x1).bind fun (v2 : Int32) =>
  (if v2 = 0 then
    some (0 : Int32)
  else
    (z_ld M 32 3243 ((45 : Int32) + x1)).bind fun (v16 : Int32) =>
    if v16 = (-1 : Int32) then
      some (0 : Int32)
    else
      some (1 : Int32)
  ).bind fun (j5 : Int32) =>
    (f_X11_isHeir_L29 FU M x1 j5 (0 : Int32)).bind fun (w29 : Int32) =>
    z_rzp w29
set_option maxRecDepth 100000 in
set_option maxHeartbeats 4000000 in
theorem lp_X11_isHeir_29 {l : Launch} {g : Gx} {x : Cx} (C : zC g x l RX11 cX11_isHeir wX11_isHeir (rmm 3 67) 4) {r : Int32} : ∀ (n : Nat) (M : MM) (x1 x2 x3 : Int32) , f_X11_isHeir_L29 n M x1 x2 x3 = some r → zJ g x M 89 [(2, .int r)] [] → zJ g x M 29 [(0, .ref (ga g 31)), (1, .int x1), (2, .int x2), (3, .int x3)] [] := by
  intro n
  induction n with
  | zero =>
    intro M x1 x2 x3 h hj
    exact absurd h (by simp [f_X11_isHeir_L29])
  | succ n ih =>
    intro M x1 x2 x3 h hj
    rw [f_X11_isHeir_L29] at h
    refine z_iload_n C dX11_isHeir_29 rfl ?_
    refine z_aload_n C dX11_isHeir_30 rfl ?_
    refine z_get C O_31 0 rfl (fun _ h9 => hsT _ (inX11 _ h9)) (by decide) (hsT _ tw_3_175) dX11_isHeir_31 rfl ?_
    refine z_iconst (0 : Int32) C dX11_isHeir_34 (by decide) ?_
    obtain ⟨v35, h35, h⟩ := e_bd h
    refine z_iald C I_32 h35 dX11_isHeir_35 ?_
    refine z_icmp_ge 89 C dX11_isHeir_36 (by decide) (fun hc => ?_) (fun hc => ?_)
    · have h := e_t hc h
      obtain rfl := Option.some.inj h
      exact z_sub [2] rfl hj
    · have h := e_f hc h
      refine z_iload_n C dX11_isHeir_39 rfl ?_
      refine z_if_eq 89 C dX11_isHeir_40 (by decide) (fun hc => ?_) (fun hc => ?_)
      · have h := e_t hc h
        obtain rfl := Option.some.inj h
        exact z_sub [2] rfl hj
      · have h := e_f hc h
        refine z_aload_n C dX11_isHeir_43 rfl ?_
        refine z_get C O_31 0 rfl (fun _ h9 => hsT _ (inX11 _ h9)) (by decide) (hsT _ tw_3_175) dX11_isHeir_44 rfl ?_
        refine z_bipush (13 : Int32) C dX11_isHeir_47 (by decide) ?_
        refine z_iload_n C dX11_isHeir_49 rfl ?_
        refine z_iadd C dX11_isHeir_50 ?_
        obtain ⟨v51, h51, h⟩ := e_bd h
        refine z_iald C I_32 h51 dX11_isHeir_51 ?_
        refine z_iconst (1 : Int32) C dX11_isHeir_52 (by decide) ?_
        obtain ⟨j53, h53, h⟩ := e_bd h
        have hj53 : zJ g x M 82 [(0, .ref (ga g 31)), (1, .int x1), (3, .int x3)] [.int j53] := by
          refine z_istore_n [(2, .int j53), (0, .ref (ga g 31)), (1, .int x1), (3, .int x3)] C dX11_isHeir_82 (by decide) rfl ?_
          refine z_iinc (v := (x3 + (1 : Int32))) [(3, .int (x3 + (1 : Int32))), (2, .int j53), (0, .ref (ga g 31)), (1, .int x1)] C dX11_isHeir_83 rfl rfl (by decide) rfl ?_
          refine z_goto 29 C dX11_isHeir_86 (by decide) ?_
          refine z_sub [2, 3, 1, 0] rfl ?_
          exact ih _ _ _ _ h hj
        have h := h53
        refine z_icmp_eq 77 C dX11_isHeir_53 (by decide) (fun hc => ?_) (fun hc => ?_)
        · have h := e_t hc h
          refine z_iconst (1 : Int32) C dX11_isHeir_77 (by decide) ?_
          refine z_goto 82 C dX11_isHeir_78 (by decide) ?_
          obtain rfl := Option.some.inj h
          exact z_sub [0, 1, 3] rfl hj53
        · have h := e_f hc h
          refine z_aload_n C dX11_isHeir_56 rfl ?_
          refine z_get C O_31 0 rfl (fun _ h9 => hsT _ (inX11 _ h9)) (by decide) (hsT _ tw_3_175) dX11_isHeir_57 rfl ?_
          refine z_bipush (45 : Int32) C dX11_isHeir_60 (by decide) ?_
          refine z_iload_n C dX11_isHeir_62 rfl ?_
          refine z_iadd C dX11_isHeir_63 ?_
          obtain ⟨v64, h64, h⟩ := e_bd h
          refine z_iald C I_32 h64 dX11_isHeir_64 ?_
          refine z_aload_n C dX11_isHeir_65 rfl ?_
          refine z_get C O_31 0 rfl (fun _ h9 => hsT _ (inX11 _ h9)) (by decide) (hsT _ tw_3_175) dX11_isHeir_66 rfl ?_
          refine z_bipush (45 : Int32) C dX11_isHeir_69 (by decide) ?_
          refine z_iload_n C dX11_isHeir_71 rfl ?_
          refine z_iadd C dX11_isHeir_72 ?_
          obtain ⟨v73, h73, h⟩ := e_bd h
          refine z_iald C I_32 h73 dX11_isHeir_73 ?_
          refine z_icmp_eq 81 C dX11_isHeir_74 (by decide) (fun hc => ?_) (fun hc => ?_)
          · have h := e_t hc h
            refine z_iconst (0 : Int32) C dX11_isHeir_81 (by decide) ?_
            obtain rfl := Option.some.inj h
            exact z_sub [0, 1, 3] rfl hj53
          · have h := e_f hc h
            refine z_iconst (1 : Int32) C dX11_isHeir_77 (by decide) ?_
            refine z_goto 82 C dX11_isHeir_78 (by decide) ?_
            obtain rfl := Option.some.inj h
            exact z_sub [0, 1, 3] rfl hj53
set_option maxRecDepth 100000 in
set_option maxHeartbeats 4000000 in
theorem c_X11_isHeir (l : Launch) (g : Gx) {M : MM} {x1 : Int32} {r : Int32} (h : f_X11_isHeir M x1 = some r) : zMi l yX11_isHeir wX11_isHeir (rmm 3 67) [.ref (ga g 31), .int x1] g M r M := by
  refine zMi_of .boolean (by decide) rfl (Nat.le_of_ble_eq_true rfl) rfl rfl ?_
  intro x C E
  show zJ g x M 0 [(0, .ref (ga g 31)), (1, .int x1)] []
  unfold f_X11_isHeir at h
  refine z_aload_n C dX11_isHeir_0 rfl ?_
  refine z_iload_n C dX11_isHeir_1 rfl ?_
  obtain ⟨v2, h2, h⟩ := e_bd h
  refine z_callVi (As := [.int x1]) C (c_X11_isWoman l g h2) rfl O_31 rfl (gcV hsT tw_4_2 cw_X11_isWoman) rfl rfl rfl hy_X11_isWoman rfl ⟨Nat.le_of_ble_eq_true rfl, Nat.le_of_ble_eq_true rfl⟩ (Nat.le_of_ble_eq_true rfl) dX11_isHeir_2 ?_
  obtain ⟨j5, h5, h⟩ := e_bd h
  have hj5 : zJ g x M 26 [(0, .ref (ga g 31)), (1, .int x1)] [.int j5] := by
    refine z_istore_n [(2, .int j5), (0, .ref (ga g 31)), (1, .int x1)] C dX11_isHeir_26 (by decide) rfl ?_
    refine z_iconst (0 : Int32) C dX11_isHeir_27 (by decide) ?_
    refine z_istore_n [(3, .int (0 : Int32)), (2, .int j5), (0, .ref (ga g 31)), (1, .int x1)] C dX11_isHeir_28 (by decide) rfl ?_
    obtain ⟨w29, h29, h⟩ := e_bd h
    refine z_sub [2, 3, 1, 0] rfl ?_
    refine lp_X11_isHeir_29 C _ _ _ _ _ h29 ?_
    refine z_iload_n C dX11_isHeir_89 rfl ?_
    obtain ⟨hz, rfl⟩ := e_rzp h
    exact z_zret C E hz dX11_isHeir_90
  have h := h5
  refine z_if_eq 25 C dX11_isHeir_5 (by decide) (fun hc => ?_) (fun hc => ?_)
  · have h := e_t hc h
    refine z_iconst (0 : Int32) C dX11_isHeir_25 (by decide) ?_
    obtain rfl := Option.some.inj h
    exact z_sub [0, 1] rfl hj5
  · have h := e_f hc h
    refine z_aload_n C dX11_isHeir_8 rfl ?_
    refine z_get C O_31 0 rfl (fun _ h9 => hsT _ (inX11 _ h9)) (by decide) (hsT _ tw_3_175) dX11_isHeir_9 rfl ?_
    refine z_bipush (45 : Int32) C dX11_isHeir_12 (by decide) ?_
    refine z_iload_n C dX11_isHeir_14 rfl ?_
    refine z_iadd C dX11_isHeir_15 ?_
    obtain ⟨v16, h16, h⟩ := e_bd h
    refine z_iald C I_32 h16 dX11_isHeir_16 ?_
    refine z_iconst (-1 : Int32) C dX11_isHeir_17 (by decide) ?_
    refine z_icmp_eq 25 C dX11_isHeir_18 (by decide) (fun hc => ?_) (fun hc => ?_)
    · have h := e_t hc h
      refine z_iconst (0 : Int32) C dX11_isHeir_25 (by decide) ?_
      obtain rfl := Option.some.inj h
      exact z_sub [0, 1] rfl hj5
    · have h := e_f hc h
      refine z_iconst (1 : Int32) C dX11_isHeir_21 (by decide) ?_
      refine z_goto 26 C dX11_isHeir_22 (by decide) ?_
      obtain rfl := Option.some.inj h
      exact z_sub [0, 1] rfl hj5
theorem hy_X11_takes : yX11_takes.cls = RX11 ∧ yX11_takes.cls ≠ "java/lang/invoke/MethodHandle" ∧ yX11_takes.cls ≠ "java/lang/invoke/VarHandle" ∧ (parseMethodDescriptor yX11_takes.desc).map (fun d => d.parameters.length) = some 3 := by decide +kernel
def wX11_takes : List Cond := Cond.code yX11_takes cX11_takes 6 none :: TB
def f_X11_takes_L6 : Nat → MM → Int32 → Int32 → Int32 → Int32 → Int32 → Option (Int32)
  | 0, _, _, _, _, _, _ => none
  | n + 1, M, x1, x2, x3, x4, x5 =>
    (z_ld M 38 17 x1).bind fun (v13 : Int32) =>
    if v13 ≤ x5 then
      some x4
    else
      (if x4 = 0 then
        (z_ld M 39 170 (((10 : Int32) * x1) + x5)).bind fun (v33 : Int32) =>
        if v33 = x2 then
          some (1 : Int32)
        else
          some (0 : Int32)
      else
        some (1 : Int32)
      ).bind fun (j19 : Int32) =>
        f_X11_takes_L6 n M x1 x2 x3 j19 (x5 + (1 : Int32))
def f_X11_takes (M : MM) (x1 : Int32) (x2 : Int32) (x3 : Int32) : Option MM :=
  (f_X11_takes_L6 FU M x1 x2 x3 (0 : Int32) (0 : Int32)).bind fun (w6 : Int32) =>
  (if w6 = 0 then
    (z_ld M 38 17 x1).bind fun (v69 : Int32) =>
    (z_sto M 39 170 (((10 : Int32) * x1) + v69) x2).bind fun (M72 : MM) =>
    (z_ld M72 38 17 x1).bind fun (v86 : Int32) =>
    (z_sto M72 40 170 (((10 : Int32) * x1) + v86) x3).bind fun (M89 : MM) =>
    (z_ld M89 38 17 x1).bind fun (v96 : Int32) =>
    (z_sto M89 38 17 x1 (v96 + (1 : Int32))).bind fun (M99 : MM) =>
    some M99
  else
    some M
  ).bind fun (j53 : MM) =>
    some j53
set_option maxRecDepth 100000 in
set_option maxHeartbeats 4000000 in
theorem lp_X11_takes_6 {l : Launch} {g : Gx} {x : Cx} (C : zC g x l RX11 cX11_takes wX11_takes (rmm 0 0) 6) {r : Int32} : ∀ (n : Nat) (M : MM) (x1 x2 x3 x4 x5 : Int32) , f_X11_takes_L6 n M x1 x2 x3 x4 x5 = some r → zJ g x M 51 [(0, .ref (ga g 31)), (1, .int x1), (2, .int x2), (3, .int x3), (4, .int r)] [] → zJ g x M 6 [(0, .ref (ga g 31)), (1, .int x1), (2, .int x2), (3, .int x3), (4, .int x4), (5, .int x5)] [] := by
  intro n
  induction n with
  | zero =>
    intro M x1 x2 x3 x4 x5 h hj
    exact absurd h (by simp [f_X11_takes_L6])
  | succ n ih =>
    intro M x1 x2 x3 x4 x5 h hj
    rw [f_X11_takes_L6] at h
    refine z_iload C dX11_takes_6 rfl ?_
    refine z_aload_n C dX11_takes_8 rfl ?_
    refine z_get C O_31 9 rfl (fun _ h9 => hsT _ (inX11 _ h9)) (by decide) (hsT _ tw_3_184) dX11_takes_9 rfl ?_
    refine z_iload_n C dX11_takes_12 rfl ?_
    obtain ⟨v13, h13, h⟩ := e_bd h
    refine z_iald C I_38 h13 dX11_takes_13 ?_
    refine z_icmp_ge 51 C dX11_takes_14 (by decide) (fun hc => ?_) (fun hc => ?_)
    · have h := e_t hc h
      obtain rfl := Option.some.inj h
      exact z_sub [0, 1, 2, 3, 4] rfl hj
    · have h := e_f hc h
      refine z_iload C dX11_takes_17 rfl ?_
      obtain ⟨j19, h19, h⟩ := e_bd h
      have hj19 : zJ g x M 43 [(0, .ref (ga g 31)), (1, .int x1), (2, .int x2), (3, .int x3), (5, .int x5)] [.int j19] := by
        refine z_istore [(4, .int j19), (0, .ref (ga g 31)), (1, .int x1), (2, .int x2), (3, .int x3), (5, .int x5)] C dX11_takes_43 (by decide) rfl ?_
        refine z_iinc (v := (x5 + (1 : Int32))) [(5, .int (x5 + (1 : Int32))), (4, .int j19), (0, .ref (ga g 31)), (1, .int x1), (2, .int x2), (3, .int x3)] C dX11_takes_45 rfl rfl (by decide) rfl ?_
        refine z_goto 6 C dX11_takes_48 (by decide) ?_
        refine z_sub [2, 3, 4, 5, 1, 0] rfl ?_
        exact ih _ _ _ _ _ _ h hj
      have h := h19
      refine z_if_ne 38 C dX11_takes_19 (by decide) (fun hc => ?_) (fun hc => ?_)
      · have h := e_f hc h
        refine z_iconst (1 : Int32) C dX11_takes_38 (by decide) ?_
        refine z_goto 43 C dX11_takes_39 (by decide) ?_
        obtain rfl := Option.some.inj h
        exact z_sub [0, 1, 2, 3, 5] rfl hj19
      · have h := e_t hc h
        refine z_aload_n C dX11_takes_22 rfl ?_
        refine z_get C O_31 10 rfl (fun _ h9 => hsT _ (inX11 _ h9)) (by decide) (hsT _ tw_3_185) dX11_takes_23 rfl ?_
        refine z_bipush (10 : Int32) C dX11_takes_26 (by decide) ?_
        refine z_iload_n C dX11_takes_28 rfl ?_
        refine z_imul C dX11_takes_29 ?_
        refine z_iload C dX11_takes_30 rfl ?_
        refine z_iadd C dX11_takes_32 ?_
        obtain ⟨v33, h33, h⟩ := e_bd h
        refine z_iald C I_39 h33 dX11_takes_33 ?_
        refine z_iload_n C dX11_takes_34 rfl ?_
        refine z_icmp_ne 42 C dX11_takes_35 (by decide) (fun hc => ?_) (fun hc => ?_)
        · have h := e_f hc h
          refine z_iconst (0 : Int32) C dX11_takes_42 (by decide) ?_
          obtain rfl := Option.some.inj h
          exact z_sub [0, 1, 2, 3, 5] rfl hj19
        · have h := e_t hc h
          refine z_iconst (1 : Int32) C dX11_takes_38 (by decide) ?_
          refine z_goto 43 C dX11_takes_39 (by decide) ?_
          obtain rfl := Option.some.inj h
          exact z_sub [0, 1, 2, 3, 5] rfl hj19
set_option maxRecDepth 100000 in
set_option maxHeartbeats 4000000 in
theorem c_X11_takes (l : Launch) (g : Gx) {M : MM} {x1 : Int32} {x2 : Int32} {x3 : Int32} {r : MM} (h : f_X11_takes M x1 x2 x3 = some r) : zMv l yX11_takes wX11_takes (rmm 0 0) [.ref (ga g 31), .int x1, .int x2, .int x3] g M r := by
  refine zMv_of (by decide) rfl (Nat.le_of_ble_eq_true rfl) rfl rfl ?_
  intro x C E
  show zJ g x M 0 [(0, .ref (ga g 31)), (1, .int x1), (2, .int x2), (3, .int x3)] []
  unfold f_X11_takes at h
  refine z_iconst (0 : Int32) C dX11_takes_0 (by decide) ?_
  refine z_istore [(4, .int (0 : Int32)), (0, .ref (ga g 31)), (1, .int x1), (2, .int x2), (3, .int x3)] C dX11_takes_1 (by decide) rfl ?_
  refine z_iconst (0 : Int32) C dX11_takes_3 (by decide) ?_
  refine z_istore [(5, .int (0 : Int32)), (4, .int (0 : Int32)), (0, .ref (ga g 31)), (1, .int x1), (2, .int x2), (3, .int x3)] C dX11_takes_4 (by decide) rfl ?_
  obtain ⟨w6, h6, h⟩ := e_bd h
  refine z_sub [2, 3, 4, 5, 1, 0] rfl ?_
  refine lp_X11_takes_6 C _ _ _ _ _ _ _ h6 ?_
  refine z_iload C dX11_takes_51 rfl ?_
  obtain ⟨j53, h53, h⟩ := e_bd h
  have hj53 : zJ g x j53 100 [] [] := by
    obtain rfl := Option.some.inj h
    exact z_vret C E dX11_takes_100
  have h := h53
  refine z_if_ne 100 C dX11_takes_53 (by decide) (fun hc => ?_) (fun hc => ?_)
  · have h := e_f hc h
    obtain rfl := Option.some.inj h
    exact z_sub [] rfl hj53
  · have h := e_t hc h
    refine z_aload_n C dX11_takes_56 rfl ?_
    refine z_get C O_31 10 rfl (fun _ h9 => hsT _ (inX11 _ h9)) (by decide) (hsT _ tw_3_185) dX11_takes_57 rfl ?_
    refine z_bipush (10 : Int32) C dX11_takes_60 (by decide) ?_
    refine z_iload_n C dX11_takes_62 rfl ?_
    refine z_imul C dX11_takes_63 ?_
    refine z_aload_n C dX11_takes_64 rfl ?_
    refine z_get C O_31 9 rfl (fun _ h9 => hsT _ (inX11 _ h9)) (by decide) (hsT _ tw_3_184) dX11_takes_65 rfl ?_
    refine z_iload_n C dX11_takes_68 rfl ?_
    obtain ⟨v69, h69, h⟩ := e_bd h
    refine z_iald C I_38 h69 dX11_takes_69 ?_
    refine z_iadd C dX11_takes_70 ?_
    refine z_iload_n C dX11_takes_71 rfl ?_
    obtain ⟨M72, h72, h⟩ := e_bd h
    refine z_iast C I_39 h72 dX11_takes_72 ?_
    refine z_aload_n C dX11_takes_73 rfl ?_
    refine z_get C O_31 11 rfl (fun _ h9 => hsT _ (inX11 _ h9)) (by decide) (hsT _ tw_3_186) dX11_takes_74 rfl ?_
    refine z_bipush (10 : Int32) C dX11_takes_77 (by decide) ?_
    refine z_iload_n C dX11_takes_79 rfl ?_
    refine z_imul C dX11_takes_80 ?_
    refine z_aload_n C dX11_takes_81 rfl ?_
    refine z_get C O_31 9 rfl (fun _ h9 => hsT _ (inX11 _ h9)) (by decide) (hsT _ tw_3_184) dX11_takes_82 rfl ?_
    refine z_iload_n C dX11_takes_85 rfl ?_
    obtain ⟨v86, h86, h⟩ := e_bd h
    refine z_iald C I_38 h86 dX11_takes_86 ?_
    refine z_iadd C dX11_takes_87 ?_
    refine z_iload_n C dX11_takes_88 rfl ?_
    obtain ⟨M89, h89, h⟩ := e_bd h
    refine z_iast C I_40 h89 dX11_takes_89 ?_
    refine z_aload_n C dX11_takes_90 rfl ?_
    refine z_get C O_31 9 rfl (fun _ h9 => hsT _ (inX11 _ h9)) (by decide) (hsT _ tw_3_184) dX11_takes_91 rfl ?_
    refine z_iload_n C dX11_takes_94 rfl ?_
    refine z_dup2 C dX11_takes_95 rfl rfl ?_
    obtain ⟨v96, h96, h⟩ := e_bd h
    refine z_iald C I_38 h96 dX11_takes_96 ?_
    refine z_iconst (1 : Int32) C dX11_takes_97 (by decide) ?_
    refine z_iadd C dX11_takes_98 ?_
    obtain ⟨M99, h99, h⟩ := e_bd h
    refine z_iast C I_38 h99 dX11_takes_99 ?_
    obtain rfl := Option.some.inj h
    exact z_sub [] rfl hj53
theorem hy_X11_takesOf : yX11_takesOf.cls = RX11 ∧ yX11_takesOf.cls ≠ "java/lang/invoke/MethodHandle" ∧ yX11_takesOf.cls ≠ "java/lang/invoke/VarHandle" ∧ (parseMethodDescriptor yX11_takesOf.desc).map (fun d => d.parameters.length) = some 3 := by decide +kernel
def wX11_takesOf : List Cond := Cond.code yX11_takesOf cX11_takesOf 5 none :: TB
def f_X11_takesOf_L3 : Nat → MM → Int32 → Int32 → Int32 → Int32 → Option (MM)
  | 0, _, _, _, _, _ => none
  | n + 1, M, x1, x2, x3, x4 =>
    if x3 ≤ x4 then
      some M
    else
      (z_ld M 38 17 x2).bind fun (v16 : Int32) =>
      if v16 ≤ x4 then
        some M
      else
        (z_ld M 39 170 (((10 : Int32) * x2) + x4)).bind fun (v33 : Int32) =>
        (z_ld M 40 170 (((10 : Int32) * x2) + x4)).bind fun (v45 : Int32) =>
        (f_X11_takes M x1 v33 v45).bind fun (M46 : MM) =>
        f_X11_takesOf_L3 n M46 x1 x2 x3 (x4 + (1 : Int32))
def f_X11_takesOf (M : MM) (x1 : Int32) (x2 : Int32) (x3 : Int32) : Option MM :=
  (f_X11_takesOf_L3 FU M x1 x2 x3 (0 : Int32)).bind fun (w3 : MM) =>
  some w3
set_option maxRecDepth 100000 in
set_option maxHeartbeats 4000000 in
theorem lp_X11_takesOf_3 {l : Launch} {g : Gx} {x : Cx} (C : zC g x l RX11 cX11_takesOf wX11_takesOf (rmm 1 25) 5) {r : MM} : ∀ (n : Nat) (M : MM) (x1 x2 x3 x4 : Int32) , f_X11_takesOf_L3 n M x1 x2 x3 x4 = some r → zJ g x r 55 [] [] → zJ g x M 3 [(0, .ref (ga g 31)), (1, .int x1), (2, .int x2), (3, .int x3), (4, .int x4)] [] := by
  intro n
  induction n with
  | zero =>
    intro M x1 x2 x3 x4 h hj
    exact absurd h (by simp [f_X11_takesOf_L3])
  | succ n ih =>
    intro M x1 x2 x3 x4 h hj
    rw [f_X11_takesOf_L3] at h
    refine z_iload C dX11_takesOf_3 rfl ?_
    refine z_iload_n C dX11_takesOf_5 rfl ?_
    refine z_icmp_ge 55 C dX11_takesOf_6 (by decide) (fun hc => ?_) (fun hc => ?_)
    · have h := e_t hc h
      obtain rfl := Option.some.inj h
      exact z_sub [] rfl hj
    · have h := e_f hc h
      refine z_iload C dX11_takesOf_9 rfl ?_
      refine z_aload_n C dX11_takesOf_11 rfl ?_
      refine z_get C O_31 9 rfl (fun _ h9 => hsT _ (inX11 _ h9)) (by decide) (hsT _ tw_3_184) dX11_takesOf_12 rfl ?_
      refine z_iload_n C dX11_takesOf_15 rfl ?_
      obtain ⟨v16, h16, h⟩ := e_bd h
      refine z_iald C I_38 h16 dX11_takesOf_16 ?_
      refine z_icmp_ge 55 C dX11_takesOf_17 (by decide) (fun hc => ?_) (fun hc => ?_)
      · have h := e_t hc h
        obtain rfl := Option.some.inj h
        exact z_sub [] rfl hj
      · have h := e_f hc h
        refine z_aload_n C dX11_takesOf_20 rfl ?_
        refine z_iload_n C dX11_takesOf_21 rfl ?_
        refine z_aload_n C dX11_takesOf_22 rfl ?_
        refine z_get C O_31 10 rfl (fun _ h9 => hsT _ (inX11 _ h9)) (by decide) (hsT _ tw_3_185) dX11_takesOf_23 rfl ?_
        refine z_bipush (10 : Int32) C dX11_takesOf_26 (by decide) ?_
        refine z_iload_n C dX11_takesOf_28 rfl ?_
        refine z_imul C dX11_takesOf_29 ?_
        refine z_iload C dX11_takesOf_30 rfl ?_
        refine z_iadd C dX11_takesOf_32 ?_
        obtain ⟨v33, h33, h⟩ := e_bd h
        refine z_iald C I_39 h33 dX11_takesOf_33 ?_
        refine z_aload_n C dX11_takesOf_34 rfl ?_
        refine z_get C O_31 11 rfl (fun _ h9 => hsT _ (inX11 _ h9)) (by decide) (hsT _ tw_3_186) dX11_takesOf_35 rfl ?_
        refine z_bipush (10 : Int32) C dX11_takesOf_38 (by decide) ?_
        refine z_iload_n C dX11_takesOf_40 rfl ?_
        refine z_imul C dX11_takesOf_41 ?_
        refine z_iload C dX11_takesOf_42 rfl ?_
        refine z_iadd C dX11_takesOf_44 ?_
        obtain ⟨v45, h45, h⟩ := e_bd h
        refine z_iald C I_40 h45 dX11_takesOf_45 ?_
        obtain ⟨M46, h46, h⟩ := e_bd h
        refine z_callVv (As := [.int x1, .int v33, .int v45]) C (c_X11_takes l g h46) rfl O_31 rfl (gcV hsT tw_4_25 cw_X11_takes) rfl rfl rfl hy_X11_takes rfl ⟨Nat.le_of_ble_eq_true rfl, Nat.le_of_ble_eq_true rfl⟩ (Nat.le_of_ble_eq_true rfl) dX11_takesOf_46 ?_
        refine z_iinc (v := (x4 + (1 : Int32))) [(4, .int (x4 + (1 : Int32))), (0, .ref (ga g 31)), (1, .int x1), (2, .int x2), (3, .int x3)] C dX11_takesOf_49 rfl rfl (by decide) rfl ?_
        refine z_goto 3 C dX11_takesOf_52 (by decide) ?_
        refine z_sub [1, 2, 3, 4, 0] rfl ?_
        exact ih _ _ _ _ _ h hj
set_option maxRecDepth 100000 in
set_option maxHeartbeats 4000000 in
theorem c_X11_takesOf (l : Launch) (g : Gx) {M : MM} {x1 : Int32} {x2 : Int32} {x3 : Int32} {r : MM} (h : f_X11_takesOf M x1 x2 x3 = some r) : zMv l yX11_takesOf wX11_takesOf (rmm 1 25) [.ref (ga g 31), .int x1, .int x2, .int x3] g M r := by
  refine zMv_of (by decide) rfl (Nat.le_of_ble_eq_true rfl) rfl rfl ?_
  intro x C E
  show zJ g x M 0 [(0, .ref (ga g 31)), (1, .int x1), (2, .int x2), (3, .int x3)] []
  unfold f_X11_takesOf at h
  refine z_iconst (0 : Int32) C dX11_takesOf_0 (by decide) ?_
  refine z_istore [(4, .int (0 : Int32)), (0, .ref (ga g 31)), (1, .int x1), (2, .int x2), (3, .int x3)] C dX11_takesOf_1 (by decide) rfl ?_
  obtain ⟨w3, h3, h⟩ := e_bd h
  refine z_sub [1, 2, 3, 4, 0] rfl ?_
  refine lp_X11_takesOf_3 C _ _ _ _ _ _ h3 ?_
  obtain rfl := Option.some.inj h
  exact z_vret C E dX11_takesOf_55
theorem hy_X11_laysOne : yX11_laysOne.cls = RX11 ∧ yX11_laysOne.cls ≠ "java/lang/invoke/MethodHandle" ∧ yX11_laysOne.cls ≠ "java/lang/invoke/VarHandle" ∧ (parseMethodDescriptor yX11_laysOne.desc).map (fun d => d.parameters.length) = some 4 := by decide +kernel
def wX11_laysOne : List Cond := Cond.code yX11_laysOne cX11_laysOne 6 none :: TB
def f_X11_laysOne_T94 (M : MM) (x1 : Int32) (x3 : Int32) : Option MM :=
  (z_ld M 32 3243 (1 : Int32)).bind fun (v99 : Int32) =>
  (if v99 = (2 : Int32) then
    if x3 = (-1 : Int32) then
      some M
    else
      (f_X11_takesOf M x1 x3 (10 : Int32)).bind fun (M114 : MM) =>
      some M114
  else
    some M
  ).bind fun (j101 : MM) =>
    some j101
def f_X11_laysOne_T66 (M : MM) (x1 : Int32) (x3 : Int32) (x4 : Int32) (x5 : Int32) : Option MM :=
  (if x5 = 0 then
    some M
  else
    (z_ld M 32 3243 (1 : Int32)).bind fun (v80 : Int32) =>
    (if v80 = (1 : Int32) then
      some (1 : Int32)
    else
      some (10 : Int32)
    ).bind fun (j82 : Int32) =>
      (f_X11_takesOf M x1 x4 j82).bind fun (M91 : MM) =>
      some M91
  ).bind fun (j68 : MM) =>
    f_X11_laysOne_T94 j68 x1 x3
def f_X11_laysOne (M : MM) (x1 : Int32) (x2 : Int32) (x3 : Int32) (x4 : Int32) : Option MM :=
  (if x4 = (-1 : Int32) then
    some (0 : Int32)
  else
    (f_X11_isHeir M x4).bind fun (v9 : Int32) =>
    if v9 = 0 then
      some (0 : Int32)
    else
      some (1 : Int32)
  ).bind fun (j3 : Int32) =>
    (z_sto M 38 17 x1 (0 : Int32)).bind fun (M28 : MM) =>
    (if x3 = (-1 : Int32) then
      (f_X11_takes M28 x1 x2 x1).bind fun (M38 : MM) =>
      some M38
    else
      (z_ld M28 32 3243 (1 : Int32)).bind fun (v52 : Int32) =>
      (if v52 = (2 : Int32) then
        some (1 : Int32)
      else
        some (10 : Int32)
      ).bind fun (j54 : Int32) =>
        (f_X11_takesOf M28 x1 x3 j54).bind fun (M63 : MM) =>
        some M63
    ).bind fun (j31 : MM) =>
      f_X11_laysOne_T66 j31 x1 x3 x4 j3
set_option maxRecDepth 100000 in
set_option maxHeartbeats 4000000 in
theorem tl_X11_laysOne_94 {l : Launch} {g : Gx} {x : Cx} (C : zC g x l RX11 cX11_laysOne wX11_laysOne (rmm 4 90) 6) {M : MM} {x1 : Int32} {x3 : Int32} {r : MM} (h : f_X11_laysOne_T94 M x1 x3 = some r) (E : zRv g x r) : zJ g x M 94 [(0, .ref (ga g 31)), (1, .int x1), (3, .int x3)] [] := by
  unfold f_X11_laysOne_T94 at h
  refine z_aload_n C dX11_laysOne_94 rfl ?_
  refine z_get C O_31 0 rfl (fun _ h9 => hsT _ (inX11 _ h9)) (by decide) (hsT _ tw_3_175) dX11_laysOne_95 rfl ?_
  refine z_iconst (1 : Int32) C dX11_laysOne_98 (by decide) ?_
  obtain ⟨v99, h99, h⟩ := e_bd h
  refine z_iald C I_32 h99 dX11_laysOne_99 ?_
  refine z_iconst (2 : Int32) C dX11_laysOne_100 (by decide) ?_
  obtain ⟨j101, h101, h⟩ := e_bd h
  have hj101 : zJ g x j101 117 [] [] := by
    obtain rfl := Option.some.inj h
    exact z_vret C E dX11_laysOne_117
  have h := h101
  refine z_icmp_ne 117 C dX11_laysOne_101 (by decide) (fun hc => ?_) (fun hc => ?_)
  · have h := e_f hc h
    obtain rfl := Option.some.inj h
    exact z_sub [] rfl hj101
  · have h := e_t hc h
    refine z_iload_n C dX11_laysOne_104 rfl ?_
    refine z_iconst (-1 : Int32) C dX11_laysOne_105 (by decide) ?_
    refine z_icmp_eq 117 C dX11_laysOne_106 (by decide) (fun hc => ?_) (fun hc => ?_)
    · have h := e_t hc h
      obtain rfl := Option.some.inj h
      exact z_sub [] rfl hj101
    · have h := e_f hc h
      refine z_aload_n C dX11_laysOne_109 rfl ?_
      refine z_iload_n C dX11_laysOne_110 rfl ?_
      refine z_iload_n C dX11_laysOne_111 rfl ?_
      refine z_bipush (10 : Int32) C dX11_laysOne_112 (by decide) ?_
      obtain ⟨M114, h114, h⟩ := e_bd h
      refine z_callVv (As := [.int x1, .int x3, .int (10 : Int32)]) C (c_X11_takesOf l g h114) rfl O_31 rfl (gcV hsT tw_4_29 cw_X11_takesOf) rfl rfl rfl hy_X11_takesOf rfl ⟨Nat.le_of_ble_eq_true rfl, Nat.le_of_ble_eq_true rfl⟩ (Nat.le_of_ble_eq_true rfl) dX11_laysOne_114 ?_
      obtain rfl := Option.some.inj h
      exact z_sub [] rfl hj101
set_option maxRecDepth 100000 in
set_option maxHeartbeats 4000000 in
theorem tl_X11_laysOne_66 {l : Launch} {g : Gx} {x : Cx} (C : zC g x l RX11 cX11_laysOne wX11_laysOne (rmm 4 90) 6) {M : MM} {x1 : Int32} {x3 : Int32} {x4 : Int32} {x5 : Int32} {r : MM} (h : f_X11_laysOne_T66 M x1 x3 x4 x5 = some r) (E : zRv g x r) : zJ g x M 66 [(0, .ref (ga g 31)), (1, .int x1), (3, .int x3), (4, .int x4), (5, .int x5)] [] := by
  unfold f_X11_laysOne_T66 at h
  refine z_iload C dX11_laysOne_66 rfl ?_
  obtain ⟨j68, h68, h⟩ := e_bd h
  have hj68 : zJ g x j68 94 [(0, .ref (ga g 31)), (1, .int x1), (3, .int x3)] [] := by
    refine z_sub [0, 1, 2] rfl ?_
    exact tl_X11_laysOne_94 C h E
  have h := h68
  refine z_if_eq 94 C dX11_laysOne_68 (by decide) (fun hc => ?_) (fun hc => ?_)
  · have h := e_t hc h
    obtain rfl := Option.some.inj h
    exact z_sub [0, 1, 2] rfl hj68
  · have h := e_f hc h
    refine z_aload_n C dX11_laysOne_71 rfl ?_
    refine z_iload_n C dX11_laysOne_72 rfl ?_
    refine z_iload C dX11_laysOne_73 rfl ?_
    refine z_aload_n C dX11_laysOne_75 rfl ?_
    refine z_get C O_31 0 rfl (fun _ h9 => hsT _ (inX11 _ h9)) (by decide) (hsT _ tw_3_175) dX11_laysOne_76 rfl ?_
    refine z_iconst (1 : Int32) C dX11_laysOne_79 (by decide) ?_
    obtain ⟨v80, h80, h⟩ := e_bd h
    refine z_iald C I_32 h80 dX11_laysOne_80 ?_
    refine z_iconst (1 : Int32) C dX11_laysOne_81 (by decide) ?_
    obtain ⟨j82, h82, h⟩ := e_bd h
    have hj82 : zJ g x M 91 [(0, .ref (ga g 31)), (1, .int x1), (3, .int x3)] [.int j82, .int x4, .int x1, .ref (ga g 31)] := by
      obtain ⟨M91, h91, h⟩ := e_bd h
      refine z_callVv (As := [.int x1, .int x4, .int j82]) C (c_X11_takesOf l g h91) rfl O_31 rfl (gcV hsT tw_4_29 cw_X11_takesOf) rfl rfl rfl hy_X11_takesOf rfl ⟨Nat.le_of_ble_eq_true rfl, Nat.le_of_ble_eq_true rfl⟩ (Nat.le_of_ble_eq_true rfl) dX11_laysOne_91 ?_
      obtain rfl := Option.some.inj h
      exact z_sub [0, 1, 2] rfl hj68
    have h := h82
    refine z_icmp_ne 89 C dX11_laysOne_82 (by decide) (fun hc => ?_) (fun hc => ?_)
    · have h := e_f hc h
      refine z_bipush (10 : Int32) C dX11_laysOne_89 (by decide) ?_
      obtain rfl := Option.some.inj h
      exact z_sub [0, 1, 2] rfl hj82
    · have h := e_t hc h
      refine z_iconst (1 : Int32) C dX11_laysOne_85 (by decide) ?_
      refine z_goto 91 C dX11_laysOne_86 (by decide) ?_
      obtain rfl := Option.some.inj h
      exact z_sub [0, 1, 2] rfl hj82
set_option maxRecDepth 100000 in
set_option maxHeartbeats 4000000 in
theorem c_X11_laysOne (l : Launch) (g : Gx) {M : MM} {x1 : Int32} {x2 : Int32} {x3 : Int32} {x4 : Int32} {r : MM} (h : f_X11_laysOne M x1 x2 x3 x4 = some r) : zMv l yX11_laysOne wX11_laysOne (rmm 4 90) [.ref (ga g 31), .int x1, .int x2, .int x3, .int x4] g M r := by
  refine zMv_of (by decide) rfl (Nat.le_of_ble_eq_true rfl) rfl rfl ?_
  intro x C E
  show zJ g x M 0 [(0, .ref (ga g 31)), (1, .int x1), (2, .int x2), (3, .int x3), (4, .int x4)] []
  unfold f_X11_laysOne at h
  refine z_iload C dX11_laysOne_0 rfl ?_
  refine z_iconst (-1 : Int32) C dX11_laysOne_2 (by decide) ?_
  obtain ⟨j3, h3, h⟩ := e_bd h
  have hj3 : zJ g x M 20 [(0, .ref (ga g 31)), (1, .int x1), (2, .int x2), (3, .int x3), (4, .int x4)] [.int j3] := by
    refine z_istore [(5, .int j3), (0, .ref (ga g 31)), (1, .int x1), (2, .int x2), (3, .int x3), (4, .int x4)] C dX11_laysOne_20 (by decide) rfl ?_
    refine z_aload_n C dX11_laysOne_22 rfl ?_
    refine z_get C O_31 9 rfl (fun _ h9 => hsT _ (inX11 _ h9)) (by decide) (hsT _ tw_3_184) dX11_laysOne_23 rfl ?_
    refine z_iload_n C dX11_laysOne_26 rfl ?_
    refine z_iconst (0 : Int32) C dX11_laysOne_27 (by decide) ?_
    obtain ⟨M28, h28, h⟩ := e_bd h
    refine z_iast C I_38 h28 dX11_laysOne_28 ?_
    refine z_iload_n C dX11_laysOne_29 rfl ?_
    refine z_iconst (-1 : Int32) C dX11_laysOne_30 (by decide) ?_
    obtain ⟨j31, h31, h⟩ := e_bd h
    have hj31 : zJ g x j31 66 [(0, .ref (ga g 31)), (1, .int x1), (3, .int x3), (4, .int x4), (5, .int j3)] [] := by
      refine z_sub [0, 1, 2, 3, 4] rfl ?_
      exact tl_X11_laysOne_66 C h E
    have h := h31
    refine z_icmp_ne 44 C dX11_laysOne_31 (by decide) (fun hc => ?_) (fun hc => ?_)
    · have h := e_f hc h
      refine z_aload_n C dX11_laysOne_44 rfl ?_
      refine z_iload_n C dX11_laysOne_45 rfl ?_
      refine z_iload_n C dX11_laysOne_46 rfl ?_
      refine z_aload_n C dX11_laysOne_47 rfl ?_
      refine z_get C O_31 0 rfl (fun _ h9 => hsT _ (inX11 _ h9)) (by decide) (hsT _ tw_3_175) dX11_laysOne_48 rfl ?_
      refine z_iconst (1 : Int32) C dX11_laysOne_51 (by decide) ?_
      obtain ⟨v52, h52, h⟩ := e_bd h
      refine z_iald C I_32 h52 dX11_laysOne_52 ?_
      refine z_iconst (2 : Int32) C dX11_laysOne_53 (by decide) ?_
      obtain ⟨j54, h54, h⟩ := e_bd h
      have hj54 : zJ g x M28 63 [(0, .ref (ga g 31)), (1, .int x1), (3, .int x3), (4, .int x4), (5, .int j3)] [.int j54, .int x3, .int x1, .ref (ga g 31)] := by
        obtain ⟨M63, h63, h⟩ := e_bd h
        refine z_callVv (As := [.int x1, .int x3, .int j54]) C (c_X11_takesOf l g h63) rfl O_31 rfl (gcV hsT tw_4_29 cw_X11_takesOf) rfl rfl rfl hy_X11_takesOf rfl ⟨Nat.le_of_ble_eq_true rfl, Nat.le_of_ble_eq_true rfl⟩ (Nat.le_of_ble_eq_true rfl) dX11_laysOne_63 ?_
        obtain rfl := Option.some.inj h
        exact z_sub [0, 1, 2, 3, 4] rfl hj31
      have h := h54
      refine z_icmp_ne 61 C dX11_laysOne_54 (by decide) (fun hc => ?_) (fun hc => ?_)
      · have h := e_f hc h
        refine z_bipush (10 : Int32) C dX11_laysOne_61 (by decide) ?_
        obtain rfl := Option.some.inj h
        exact z_sub [1, 2, 4, 5, 0] rfl hj54
      · have h := e_t hc h
        refine z_iconst (1 : Int32) C dX11_laysOne_57 (by decide) ?_
        refine z_goto 63 C dX11_laysOne_58 (by decide) ?_
        obtain rfl := Option.some.inj h
        exact z_sub [1, 2, 4, 5, 0] rfl hj54
    · have h := e_t hc h
      refine z_aload_n C dX11_laysOne_34 rfl ?_
      refine z_iload_n C dX11_laysOne_35 rfl ?_
      refine z_iload_n C dX11_laysOne_36 rfl ?_
      refine z_iload_n C dX11_laysOne_37 rfl ?_
      obtain ⟨M38, h38, h⟩ := e_bd h
      refine z_callVv (As := [.int x1, .int x2, .int x1]) C (c_X11_takes l g h38) rfl O_31 rfl (gcV hsT tw_4_25 cw_X11_takes) rfl rfl rfl hy_X11_takes rfl ⟨Nat.le_of_ble_eq_true rfl, Nat.le_of_ble_eq_true rfl⟩ (Nat.le_of_ble_eq_true rfl) dX11_laysOne_38 ?_
      refine z_goto 66 C dX11_laysOne_41 (by decide) ?_
      obtain rfl := Option.some.inj h
      exact z_sub [1, 2, 4, 5, 0] rfl hj31
  have h := h3
  refine z_icmp_eq 19 C dX11_laysOne_3 (by decide) (fun hc => ?_) (fun hc => ?_)
  · have h := e_t hc h
    refine z_iconst (0 : Int32) C dX11_laysOne_19 (by decide) ?_
    obtain rfl := Option.some.inj h
    exact z_sub [0, 1, 2, 3, 4] rfl hj3
  · have h := e_f hc h
    refine z_aload_n C dX11_laysOne_6 rfl ?_
    refine z_iload C dX11_laysOne_7 rfl ?_
    obtain ⟨v9, h9, h⟩ := e_bd h
    refine z_callVi (As := [.int x4]) C (c_X11_isHeir l g h9) rfl O_31 rfl (gcV hsT tw_3_238 cw_X11_isHeir) rfl rfl rfl hy_X11_isHeir rfl ⟨Nat.le_of_ble_eq_true rfl, Nat.le_of_ble_eq_true rfl⟩ (Nat.le_of_ble_eq_true rfl) dX11_laysOne_9 ?_
    refine z_if_eq 19 C dX11_laysOne_12 (by decide) (fun hc => ?_) (fun hc => ?_)
    · have h := e_t hc h
      refine z_iconst (0 : Int32) C dX11_laysOne_19 (by decide) ?_
      obtain rfl := Option.some.inj h
      exact z_sub [0, 1, 2, 3, 4] rfl hj3
    · have h := e_f hc h
      refine z_iconst (1 : Int32) C dX11_laysOne_15 (by decide) ?_
      refine z_goto 20 C dX11_laysOne_16 (by decide) ?_
      obtain rfl := Option.some.inj h
      exact z_sub [0, 1, 2, 3, 4] rfl hj3
theorem hy_X11_lays : yX11_lays.cls = RX11 ∧ yX11_lays.cls ≠ "java/lang/invoke/MethodHandle" ∧ yX11_lays.cls ≠ "java/lang/invoke/VarHandle" ∧ (parseMethodDescriptor yX11_lays.desc).map (fun d => d.parameters.length) = some 0 := by decide +kernel
def wX11_lays : List Cond := Cond.code yX11_lays cX11_lays 2 none :: TB
def f_X11_lays_L2 : Nat → MM → Int32 → Option (MM)
  | 0, _, _ => none
  | n + 1, M, x1 =>
    (z_ld M 32 3243 (0 : Int32)).bind fun (v8 : Int32) =>
    if v8 ≤ x1 then
      some M
    else
      (z_ld M 32 3243 ((29 : Int32) + x1)).bind fun (v22 : Int32) =>
      (z_ld M 32 3243 ((45 : Int32) + x1)).bind fun (v31 : Int32) =>
      (z_ld M 32 3243 ((61 : Int32) + x1)).bind fun (v40 : Int32) =>
      (f_X11_laysOne M x1 v22 v31 v40).bind fun (M41 : MM) =>
      f_X11_lays_L2 n M41 (x1 + (1 : Int32))
def f_X11_lays (M : MM)  : Option MM :=
  (f_X11_lays_L2 FU M (0 : Int32)).bind fun (w2 : MM) =>
  some w2
set_option maxRecDepth 100000 in
set_option maxHeartbeats 4000000 in
theorem lp_X11_lays_2 {l : Launch} {g : Gx} {x : Cx} (C : zC g x l RX11 cX11_lays wX11_lays (rmm 5 115) 2) {r : MM} : ∀ (n : Nat) (M : MM) (x1 : Int32) , f_X11_lays_L2 n M x1 = some r → zJ g x r 50 [] [] → zJ g x M 2 [(0, .ref (ga g 31)), (1, .int x1)] [] := by
  intro n
  induction n with
  | zero =>
    intro M x1 h hj
    exact absurd h (by simp [f_X11_lays_L2])
  | succ n ih =>
    intro M x1 h hj
    rw [f_X11_lays_L2] at h
    refine z_iload_n C dX11_lays_2 rfl ?_
    refine z_aload_n C dX11_lays_3 rfl ?_
    refine z_get C O_31 0 rfl (fun _ h9 => hsT _ (inX11 _ h9)) (by decide) (hsT _ tw_3_175) dX11_lays_4 rfl ?_
    refine z_iconst (0 : Int32) C dX11_lays_7 (by decide) ?_
    obtain ⟨v8, h8, h⟩ := e_bd h
    refine z_iald C I_32 h8 dX11_lays_8 ?_
    refine z_icmp_ge 50 C dX11_lays_9 (by decide) (fun hc => ?_) (fun hc => ?_)
    · have h := e_t hc h
      obtain rfl := Option.some.inj h
      exact z_sub [] rfl hj
    · have h := e_f hc h
      refine z_aload_n C dX11_lays_12 rfl ?_
      refine z_iload_n C dX11_lays_13 rfl ?_
      refine z_aload_n C dX11_lays_14 rfl ?_
      refine z_get C O_31 0 rfl (fun _ h9 => hsT _ (inX11 _ h9)) (by decide) (hsT _ tw_3_175) dX11_lays_15 rfl ?_
      refine z_bipush (29 : Int32) C dX11_lays_18 (by decide) ?_
      refine z_iload_n C dX11_lays_20 rfl ?_
      refine z_iadd C dX11_lays_21 ?_
      obtain ⟨v22, h22, h⟩ := e_bd h
      refine z_iald C I_32 h22 dX11_lays_22 ?_
      refine z_aload_n C dX11_lays_23 rfl ?_
      refine z_get C O_31 0 rfl (fun _ h9 => hsT _ (inX11 _ h9)) (by decide) (hsT _ tw_3_175) dX11_lays_24 rfl ?_
      refine z_bipush (45 : Int32) C dX11_lays_27 (by decide) ?_
      refine z_iload_n C dX11_lays_29 rfl ?_
      refine z_iadd C dX11_lays_30 ?_
      obtain ⟨v31, h31, h⟩ := e_bd h
      refine z_iald C I_32 h31 dX11_lays_31 ?_
      refine z_aload_n C dX11_lays_32 rfl ?_
      refine z_get C O_31 0 rfl (fun _ h9 => hsT _ (inX11 _ h9)) (by decide) (hsT _ tw_3_175) dX11_lays_33 rfl ?_
      refine z_bipush (61 : Int32) C dX11_lays_36 (by decide) ?_
      refine z_iload_n C dX11_lays_38 rfl ?_
      refine z_iadd C dX11_lays_39 ?_
      obtain ⟨v40, h40, h⟩ := e_bd h
      refine z_iald C I_32 h40 dX11_lays_40 ?_
      obtain ⟨M41, h41, h⟩ := e_bd h
      refine z_callVv (As := [.int x1, .int v22, .int v31, .int v40]) C (c_X11_laysOne l g h41) rfl O_31 rfl (gcV hsT tw_4_21 cw_X11_laysOne) rfl rfl rfl hy_X11_laysOne rfl ⟨Nat.le_of_ble_eq_true rfl, Nat.le_of_ble_eq_true rfl⟩ (Nat.le_of_ble_eq_true rfl) dX11_lays_41 ?_
      refine z_iinc (v := (x1 + (1 : Int32))) [(1, .int (x1 + (1 : Int32))), (0, .ref (ga g 31))] C dX11_lays_44 rfl rfl (by decide) rfl ?_
      refine z_goto 2 C dX11_lays_47 (by decide) ?_
      refine z_sub [1, 0] rfl ?_
      exact ih _ _ h hj
set_option maxRecDepth 100000 in
set_option maxHeartbeats 4000000 in
theorem c_X11_lays (l : Launch) (g : Gx) {M : MM}  {r : MM} (h : f_X11_lays M  = some r) : zMv l yX11_lays wX11_lays (rmm 5 115) [.ref (ga g 31)] g M r := by
  refine zMv_of (by decide) rfl (Nat.le_of_ble_eq_true rfl) rfl rfl ?_
  intro x C E
  show zJ g x M 0 [(0, .ref (ga g 31))] []
  unfold f_X11_lays at h
  refine z_iconst (0 : Int32) C dX11_lays_0 (by decide) ?_
  refine z_istore_n [(1, .int (0 : Int32)), (0, .ref (ga g 31))] C dX11_lays_1 (by decide) rfl ?_
  obtain ⟨w2, h2, h⟩ := e_bd h
  refine z_sub [1, 0] rfl ?_
  refine lp_X11_lays_2 C _ _ _ h2 ?_
  obtain rfl := Option.some.inj h
  exact z_vret C E dX11_lays_50
theorem hy_X11_isSame : yX11_isSame.cls = RX11 ∧ yX11_isSame.cls ≠ "java/lang/invoke/MethodHandle" ∧ yX11_isSame.cls ≠ "java/lang/invoke/VarHandle" ∧ (parseMethodDescriptor yX11_isSame.desc).map (fun d => d.parameters.length) = some 2 := by decide +kernel
def wX11_isSame : List Cond := Cond.code yX11_isSame cX11_isSame 5 (some .boolean) :: TB
def f_X11_isSame_L24 : Nat → MM → Int32 → Int32 → Int32 → Int32 → Option (Int32)
  | 0, _, _, _, _, _ => none
  | n + 1, M, x1, x2, x3, x4 =>
    (z_ld M 38 17 x1).bind fun (v31 : Int32) =>
    if v31 ≤ x4 then
      some x3
    else
      if x3 = 0 then
        some x3
      else
        (z_ld M 39 170 (((10 : Int32) * x1) + x4)).bind fun (v50 : Int32) =>
        (z_ld M 39 170 (((10 : Int32) * x2) + x4)).bind fun (v62 : Int32) =>
        (if v50 = v62 then
          some (1 : Int32)
        else
          some (0 : Int32)
        ).bind fun (j63 : Int32) =>
          f_X11_isSame_L24 n M x1 x2 j63 (x4 + (1 : Int32))
def f_X11_isSame (M : MM) (x1 : Int32) (x2 : Int32) : Option Int32 :=
  (z_ld M 38 17 x1).bind fun (v5 : Int32) =>
  (z_ld M 38 17 x2).bind fun (v11 : Int32) =>
  (if v5 = v11 then
    some (1 : Int32)
  else
    some (0 : Int32)
  ).bind fun (j12 : Int32) =>
    (f_X11_isSame_L24 FU M x1 x2 j12 (0 : Int32)).bind fun (w24 : Int32) =>
    z_rzp w24
set_option maxRecDepth 100000 in
set_option maxHeartbeats 4000000 in
theorem lp_X11_isSame_24 {l : Launch} {g : Gx} {x : Cx} (C : zC g x l RX11 cX11_isSame wX11_isSame (rmm 0 0) 5) {r : Int32} : ∀ (n : Nat) (M : MM) (x1 x2 x3 x4 : Int32) , f_X11_isSame_L24 n M x1 x2 x3 x4 = some r → zJ g x M 78 [(3, .int r)] [] → zJ g x M 24 [(0, .ref (ga g 31)), (1, .int x1), (2, .int x2), (3, .int x3), (4, .int x4)] [] := by
  intro n
  induction n with
  | zero =>
    intro M x1 x2 x3 x4 h hj
    exact absurd h (by simp [f_X11_isSame_L24])
  | succ n ih =>
    intro M x1 x2 x3 x4 h hj
    rw [f_X11_isSame_L24] at h
    refine z_iload C dX11_isSame_24 rfl ?_
    refine z_aload_n C dX11_isSame_26 rfl ?_
    refine z_get C O_31 9 rfl (fun _ h9 => hsT _ (inX11 _ h9)) (by decide) (hsT _ tw_3_184) dX11_isSame_27 rfl ?_
    refine z_iload_n C dX11_isSame_30 rfl ?_
    obtain ⟨v31, h31, h⟩ := e_bd h
    refine z_iald C I_38 h31 dX11_isSame_31 ?_
    refine z_icmp_ge 78 C dX11_isSame_32 (by decide) (fun hc => ?_) (fun hc => ?_)
    · have h := e_t hc h
      obtain rfl := Option.some.inj h
      exact z_sub [3] rfl hj
    · have h := e_f hc h
      refine z_iload_n C dX11_isSame_35 rfl ?_
      refine z_if_eq 78 C dX11_isSame_36 (by decide) (fun hc => ?_) (fun hc => ?_)
      · have h := e_t hc h
        obtain rfl := Option.some.inj h
        exact z_sub [3] rfl hj
      · have h := e_f hc h
        refine z_aload_n C dX11_isSame_39 rfl ?_
        refine z_get C O_31 10 rfl (fun _ h9 => hsT _ (inX11 _ h9)) (by decide) (hsT _ tw_3_185) dX11_isSame_40 rfl ?_
        refine z_bipush (10 : Int32) C dX11_isSame_43 (by decide) ?_
        refine z_iload_n C dX11_isSame_45 rfl ?_
        refine z_imul C dX11_isSame_46 ?_
        refine z_iload C dX11_isSame_47 rfl ?_
        refine z_iadd C dX11_isSame_49 ?_
        obtain ⟨v50, h50, h⟩ := e_bd h
        refine z_iald C I_39 h50 dX11_isSame_50 ?_
        refine z_aload_n C dX11_isSame_51 rfl ?_
        refine z_get C O_31 10 rfl (fun _ h9 => hsT _ (inX11 _ h9)) (by decide) (hsT _ tw_3_185) dX11_isSame_52 rfl ?_
        refine z_bipush (10 : Int32) C dX11_isSame_55 (by decide) ?_
        refine z_iload_n C dX11_isSame_57 rfl ?_
        refine z_imul C dX11_isSame_58 ?_
        refine z_iload C dX11_isSame_59 rfl ?_
        refine z_iadd C dX11_isSame_61 ?_
        obtain ⟨v62, h62, h⟩ := e_bd h
        refine z_iald C I_39 h62 dX11_isSame_62 ?_
        obtain ⟨j63, h63, h⟩ := e_bd h
        have hj63 : zJ g x M 71 [(0, .ref (ga g 31)), (1, .int x1), (2, .int x2), (4, .int x4)] [.int j63] := by
          refine z_istore_n [(3, .int j63), (0, .ref (ga g 31)), (1, .int x1), (2, .int x2), (4, .int x4)] C dX11_isSame_71 (by decide) rfl ?_
          refine z_iinc (v := (x4 + (1 : Int32))) [(4, .int (x4 + (1 : Int32))), (3, .int j63), (0, .ref (ga g 31)), (1, .int x1), (2, .int x2)] C dX11_isSame_72 rfl rfl (by decide) rfl ?_
          refine z_goto 24 C dX11_isSame_75 (by decide) ?_
          refine z_sub [2, 3, 4, 1, 0] rfl ?_
          exact ih _ _ _ _ _ h hj
        have h := h63
        refine z_icmp_ne 70 C dX11_isSame_63 (by decide) (fun hc => ?_) (fun hc => ?_)
        · have h := e_f hc h
          refine z_iconst (0 : Int32) C dX11_isSame_70 (by decide) ?_
          obtain rfl := Option.some.inj h
          exact z_sub [0, 1, 2, 4] rfl hj63
        · have h := e_t hc h
          refine z_iconst (1 : Int32) C dX11_isSame_66 (by decide) ?_
          refine z_goto 71 C dX11_isSame_67 (by decide) ?_
          obtain rfl := Option.some.inj h
          exact z_sub [0, 1, 2, 4] rfl hj63
set_option maxRecDepth 100000 in
set_option maxHeartbeats 4000000 in
theorem c_X11_isSame (l : Launch) (g : Gx) {M : MM} {x1 : Int32} {x2 : Int32} {r : Int32} (h : f_X11_isSame M x1 x2 = some r) : zMi l yX11_isSame wX11_isSame (rmm 0 0) [.ref (ga g 31), .int x1, .int x2] g M r M := by
  refine zMi_of .boolean (by decide) rfl (Nat.le_of_ble_eq_true rfl) rfl rfl ?_
  intro x C E
  show zJ g x M 0 [(0, .ref (ga g 31)), (1, .int x1), (2, .int x2)] []
  unfold f_X11_isSame at h
  refine z_aload_n C dX11_isSame_0 rfl ?_
  refine z_get C O_31 9 rfl (fun _ h9 => hsT _ (inX11 _ h9)) (by decide) (hsT _ tw_3_184) dX11_isSame_1 rfl ?_
  refine z_iload_n C dX11_isSame_4 rfl ?_
  obtain ⟨v5, h5, h⟩ := e_bd h
  refine z_iald C I_38 h5 dX11_isSame_5 ?_
  refine z_aload_n C dX11_isSame_6 rfl ?_
  refine z_get C O_31 9 rfl (fun _ h9 => hsT _ (inX11 _ h9)) (by decide) (hsT _ tw_3_184) dX11_isSame_7 rfl ?_
  refine z_iload_n C dX11_isSame_10 rfl ?_
  obtain ⟨v11, h11, h⟩ := e_bd h
  refine z_iald C I_38 h11 dX11_isSame_11 ?_
  obtain ⟨j12, h12, h⟩ := e_bd h
  have hj12 : zJ g x M 20 [(0, .ref (ga g 31)), (1, .int x1), (2, .int x2)] [.int j12] := by
    refine z_istore_n [(3, .int j12), (0, .ref (ga g 31)), (1, .int x1), (2, .int x2)] C dX11_isSame_20 (by decide) rfl ?_
    refine z_iconst (0 : Int32) C dX11_isSame_21 (by decide) ?_
    refine z_istore [(4, .int (0 : Int32)), (3, .int j12), (0, .ref (ga g 31)), (1, .int x1), (2, .int x2)] C dX11_isSame_22 (by decide) rfl ?_
    obtain ⟨w24, h24, h⟩ := e_bd h
    refine z_sub [2, 3, 4, 1, 0] rfl ?_
    refine lp_X11_isSame_24 C _ _ _ _ _ _ h24 ?_
    refine z_iload_n C dX11_isSame_78 rfl ?_
    obtain ⟨hz, rfl⟩ := e_rzp h
    exact z_zret C E hz dX11_isSame_79
  have h := h12
  refine z_icmp_ne 19 C dX11_isSame_12 (by decide) (fun hc => ?_) (fun hc => ?_)
  · have h := e_f hc h
    refine z_iconst (0 : Int32) C dX11_isSame_19 (by decide) ?_
    obtain rfl := Option.some.inj h
    exact z_sub [0, 1, 2] rfl hj12
  · have h := e_t hc h
    refine z_iconst (1 : Int32) C dX11_isSame_15 (by decide) ?_
    refine z_goto 20 C dX11_isSame_16 (by decide) ?_
    obtain rfl := Option.some.inj h
    exact z_sub [0, 1, 2] rfl hj12
theorem hy_X11_same : yX11_same.cls = RX11 ∧ yX11_same.cls ≠ "java/lang/invoke/MethodHandle" ∧ yX11_same.cls ≠ "java/lang/invoke/VarHandle" ∧ (parseMethodDescriptor yX11_same.desc).map (fun d => d.parameters.length) = some 1 := by decide +kernel
def wX11_same : List Cond := Cond.code yX11_same cX11_same 4 (some .int) :: TB
def f_X11_same_L4 : Nat → MM → Int32 → Int32 → Int32 → Option (Int32)
  | 0, _, _, _, _ => none
  | n + 1, M, x1, x2, x3 =>
    (z_ld M 32 3243 (0 : Int32)).bind fun (v10 : Int32) =>
    if v10 ≤ x3 then
      some x2
    else
      (f_X11_isSame M x1 x3).bind fun (v18 : Int32) =>
      (if v18 = 0 then
        some (0 : Int32)
      else
        some ((1 : Int32) <<< (x3 &&& 31))
      ).bind fun (j21 : Int32) =>
        f_X11_same_L4 n M x1 (x2 ||| j21) (x3 + (1 : Int32))
def f_X11_same (M : MM) (x1 : Int32) : Option Int32 :=
  (f_X11_same_L4 FU M x1 (0 : Int32) (0 : Int32)).bind fun (w4 : Int32) =>
  some w4
set_option maxRecDepth 100000 in
set_option maxHeartbeats 4000000 in
theorem lp_X11_same_4 {l : Launch} {g : Gx} {x : Cx} (C : zC g x l RX11 cX11_same wX11_same (rmm 1 24) 4) {r : Int32} : ∀ (n : Nat) (M : MM) (x1 x2 x3 : Int32) , f_X11_same_L4 n M x1 x2 x3 = some r → zJ g x M 39 [(2, .int r)] [] → zJ g x M 4 [(0, .ref (ga g 31)), (1, .int x1), (2, .int x2), (3, .int x3)] [] := by
  intro n
  induction n with
  | zero =>
    intro M x1 x2 x3 h hj
    exact absurd h (by simp [f_X11_same_L4])
  | succ n ih =>
    intro M x1 x2 x3 h hj
    rw [f_X11_same_L4] at h
    refine z_iload_n C dX11_same_4 rfl ?_
    refine z_aload_n C dX11_same_5 rfl ?_
    refine z_get C O_31 0 rfl (fun _ h9 => hsT _ (inX11 _ h9)) (by decide) (hsT _ tw_3_175) dX11_same_6 rfl ?_
    refine z_iconst (0 : Int32) C dX11_same_9 (by decide) ?_
    obtain ⟨v10, h10, h⟩ := e_bd h
    refine z_iald C I_32 h10 dX11_same_10 ?_
    refine z_icmp_ge 39 C dX11_same_11 (by decide) (fun hc => ?_) (fun hc => ?_)
    · have h := e_t hc h
      obtain rfl := Option.some.inj h
      exact z_sub [2] rfl hj
    · have h := e_f hc h
      refine z_iload_n C dX11_same_14 rfl ?_
      refine z_aload_n C dX11_same_15 rfl ?_
      refine z_iload_n C dX11_same_16 rfl ?_
      refine z_iload_n C dX11_same_17 rfl ?_
      obtain ⟨v18, h18, h⟩ := e_bd h
      refine z_callVi (As := [.int x1, .int x3]) C (c_X11_isSame l g h18) rfl O_31 rfl (gcV hsT tw_4_37 cw_X11_isSame) rfl rfl rfl hy_X11_isSame rfl ⟨Nat.le_of_ble_eq_true rfl, Nat.le_of_ble_eq_true rfl⟩ (Nat.le_of_ble_eq_true rfl) dX11_same_18 ?_
      obtain ⟨j21, h21, h⟩ := e_bd h
      have hj21 : zJ g x M 31 [(0, .ref (ga g 31)), (1, .int x1), (3, .int x3)] [.int j21, .int x2] := by
        refine z_ior C dX11_same_31 ?_
        refine z_istore_n [(2, .int (x2 ||| j21)), (0, .ref (ga g 31)), (1, .int x1), (3, .int x3)] C dX11_same_32 (by decide) rfl ?_
        refine z_iinc (v := (x3 + (1 : Int32))) [(3, .int (x3 + (1 : Int32))), (2, .int (x2 ||| j21)), (0, .ref (ga g 31)), (1, .int x1)] C dX11_same_33 rfl rfl (by decide) rfl ?_
        refine z_goto 4 C dX11_same_36 (by decide) ?_
        refine z_sub [2, 3, 1, 0] rfl ?_
        exact ih _ _ _ _ h hj
      have h := h21
      refine z_if_eq 30 C dX11_same_21 (by decide) (fun hc => ?_) (fun hc => ?_)
      · have h := e_t hc h
        refine z_iconst (0 : Int32) C dX11_same_30 (by decide) ?_
        obtain rfl := Option.some.inj h
        exact z_sub [0, 1, 3] rfl hj21
      · have h := e_f hc h
        refine z_iconst (1 : Int32) C dX11_same_24 (by decide) ?_
        refine z_iload_n C dX11_same_25 rfl ?_
        refine z_ishl C dX11_same_26 ?_
        refine z_goto 31 C dX11_same_27 (by decide) ?_
        obtain rfl := Option.some.inj h
        exact z_sub [0, 1, 3] rfl hj21
set_option maxRecDepth 100000 in
set_option maxHeartbeats 4000000 in
theorem c_X11_same (l : Launch) (g : Gx) {M : MM} {x1 : Int32} {r : Int32} (h : f_X11_same M x1 = some r) : zMi l yX11_same wX11_same (rmm 1 24) [.ref (ga g 31), .int x1] g M r M := by
  refine zMi_of .int (by decide) rfl (Nat.le_of_ble_eq_true rfl) rfl rfl ?_
  intro x C E
  show zJ g x M 0 [(0, .ref (ga g 31)), (1, .int x1)] []
  unfold f_X11_same at h
  refine z_iconst (0 : Int32) C dX11_same_0 (by decide) ?_
  refine z_istore_n [(2, .int (0 : Int32)), (0, .ref (ga g 31)), (1, .int x1)] C dX11_same_1 (by decide) rfl ?_
  refine z_iconst (0 : Int32) C dX11_same_2 (by decide) ?_
  refine z_istore_n [(3, .int (0 : Int32)), (2, .int (0 : Int32)), (0, .ref (ga g 31)), (1, .int x1)] C dX11_same_3 (by decide) rfl ?_
  obtain ⟨w4, h4, h⟩ := e_bd h
  refine z_sub [2, 3, 1, 0] rfl ?_
  refine lp_X11_same_4 C _ _ _ _ _ h4 ?_
  refine z_iload_n C dX11_same_39 rfl ?_
  obtain rfl := Option.some.inj h
  exact z_iret C E dX11_same_40
theorem hy_X11_coats : yX11_coats.cls = RX11 ∧ yX11_coats.cls ≠ "java/lang/invoke/MethodHandle" ∧ yX11_coats.cls ≠ "java/lang/invoke/VarHandle" ∧ (parseMethodDescriptor yX11_coats.desc).map (fun d => d.parameters.length) = some 0 := by decide +kernel
def wX11_coats : List Cond := Cond.code yX11_coats cX11_coats 3 (some .int) :: TB
def f_X11_coats_L8 : Nat → MM → Int32 → Int32 → Option (Int32)
  | 0, _, _, _ => none
  | n + 1, M, x1, x2 =>
    (z_ld M 32 3243 (0 : Int32)).bind fun (v14 : Int32) =>
    if v14 ≤ x2 then
      some x1
    else
      (f_X11_same M x2).bind fun (v21 : Int32) =>
      (if (v21 &&& (((1 : Int32) <<< (x2 &&& 31)) - (1 : Int32))) = 0 then
        some (1 : Int32)
      else
        some (0 : Int32)
      ).bind fun (j30 : Int32) =>
        f_X11_coats_L8 n M (x1 + j30) (x2 + (1 : Int32))
def f_X11_coats (M : MM)  : Option (Int32 × MM) :=
  (f_X11_lays M ).bind fun (M1 : MM) =>
  (f_X11_coats_L8 FU M1 (0 : Int32) (0 : Int32)).bind fun (w8 : Int32) =>
  some (w8, M1)
set_option maxRecDepth 100000 in
set_option maxHeartbeats 4000000 in
theorem lp_X11_coats_8 {l : Launch} {g : Gx} {x : Cx} (C : zC g x l RX11 cX11_coats wX11_coats (rmm 6 136) 3) {r : Int32} : ∀ (n : Nat) (M : MM) (x1 x2 : Int32) , f_X11_coats_L8 n M x1 x2 = some r → zJ g x M 46 [(1, .int r)] [] → zJ g x M 8 [(0, .ref (ga g 31)), (1, .int x1), (2, .int x2)] [] := by
  intro n
  induction n with
  | zero =>
    intro M x1 x2 h hj
    exact absurd h (by simp [f_X11_coats_L8])
  | succ n ih =>
    intro M x1 x2 h hj
    rw [f_X11_coats_L8] at h
    refine z_iload_n C dX11_coats_8 rfl ?_
    refine z_aload_n C dX11_coats_9 rfl ?_
    refine z_get C O_31 0 rfl (fun _ h9 => hsT _ (inX11 _ h9)) (by decide) (hsT _ tw_3_175) dX11_coats_10 rfl ?_
    refine z_iconst (0 : Int32) C dX11_coats_13 (by decide) ?_
    obtain ⟨v14, h14, h⟩ := e_bd h
    refine z_iald C I_32 h14 dX11_coats_14 ?_
    refine z_icmp_ge 46 C dX11_coats_15 (by decide) (fun hc => ?_) (fun hc => ?_)
    · have h := e_t hc h
      obtain rfl := Option.some.inj h
      exact z_sub [1] rfl hj
    · have h := e_f hc h
      refine z_iload_n C dX11_coats_18 rfl ?_
      refine z_aload_n C dX11_coats_19 rfl ?_
      refine z_iload_n C dX11_coats_20 rfl ?_
      obtain ⟨v21, h21, h⟩ := e_bd h
      refine z_callVi (As := [.int x2]) C (c_X11_same l g h21) rfl O_31 rfl (gcV hsT tw_4_33 cw_X11_same) rfl rfl rfl hy_X11_same rfl ⟨Nat.le_of_ble_eq_true rfl, Nat.le_of_ble_eq_true rfl⟩ (Nat.le_of_ble_eq_true rfl) dX11_coats_21 ?_
      refine z_iconst (1 : Int32) C dX11_coats_24 (by decide) ?_
      refine z_iload_n C dX11_coats_25 rfl ?_
      refine z_ishl C dX11_coats_26 ?_
      refine z_iconst (1 : Int32) C dX11_coats_27 (by decide) ?_
      refine z_isub C dX11_coats_28 ?_
      refine z_iand C dX11_coats_29 ?_
      obtain ⟨j30, h30, h⟩ := e_bd h
      have hj30 : zJ g x M 38 [(0, .ref (ga g 31)), (2, .int x2)] [.int j30, .int x1] := by
        refine z_iadd C dX11_coats_38 ?_
        refine z_istore_n [(1, .int (x1 + j30)), (0, .ref (ga g 31)), (2, .int x2)] C dX11_coats_39 (by decide) rfl ?_
        refine z_iinc (v := (x2 + (1 : Int32))) [(2, .int (x2 + (1 : Int32))), (1, .int (x1 + j30)), (0, .ref (ga g 31))] C dX11_coats_40 rfl rfl (by decide) rfl ?_
        refine z_goto 8 C dX11_coats_43 (by decide) ?_
        refine z_sub [2, 1, 0] rfl ?_
        exact ih _ _ _ h hj
      have h := h30
      refine z_if_ne 37 C dX11_coats_30 (by decide) (fun hc => ?_) (fun hc => ?_)
      · have h := e_f hc h
        refine z_iconst (0 : Int32) C dX11_coats_37 (by decide) ?_
        obtain rfl := Option.some.inj h
        exact z_sub [0, 2] rfl hj30
      · have h := e_t hc h
        refine z_iconst (1 : Int32) C dX11_coats_33 (by decide) ?_
        refine z_goto 38 C dX11_coats_34 (by decide) ?_
        obtain rfl := Option.some.inj h
        exact z_sub [0, 2] rfl hj30
set_option maxRecDepth 100000 in
set_option maxHeartbeats 4000000 in
theorem c_X11_coats (l : Launch) (g : Gx) {M : MM}  {r : Int32 × MM} (h : f_X11_coats M  = some r) : zMi l yX11_coats wX11_coats (rmm 6 136) [.ref (ga g 31)] g M r.1 r.2 := by
  refine zMi_of .int (by decide) rfl (Nat.le_of_ble_eq_true rfl) rfl rfl ?_
  intro x C E
  show zJ g x M 0 [(0, .ref (ga g 31))] []
  unfold f_X11_coats at h
  refine z_aload_n C dX11_coats_0 rfl ?_
  obtain ⟨M1, h1, h⟩ := e_bd h
  refine z_callVv (As := []) C (c_X11_lays l g h1) rfl O_31 rfl (gcV hsT tw_4_17 cw_X11_lays) rfl rfl rfl hy_X11_lays rfl ⟨Nat.le_of_ble_eq_true rfl, Nat.le_of_ble_eq_true rfl⟩ (Nat.le_of_ble_eq_true rfl) dX11_coats_1 ?_
  refine z_iconst (0 : Int32) C dX11_coats_4 (by decide) ?_
  refine z_istore_n [(1, .int (0 : Int32)), (0, .ref (ga g 31))] C dX11_coats_5 (by decide) rfl ?_
  refine z_iconst (0 : Int32) C dX11_coats_6 (by decide) ?_
  refine z_istore_n [(2, .int (0 : Int32)), (1, .int (0 : Int32)), (0, .ref (ga g 31))] C dX11_coats_7 (by decide) rfl ?_
  obtain ⟨w8, h8, h⟩ := e_bd h
  refine z_sub [2, 1, 0] rfl ?_
  refine lp_X11_coats_8 C _ _ _ _ h8 ?_
  refine z_iload_n C dX11_coats_46 rfl ?_
  obtain rfl := Option.some.inj h
  exact z_iret C E dX11_coats_47
theorem hy_X11_atLeast : yX11_atLeast.cls = RX11 ∧ yX11_atLeast.cls ≠ "java/lang/invoke/MethodHandle" ∧ yX11_atLeast.cls ≠ "java/lang/invoke/VarHandle" ∧ (parseMethodDescriptor yX11_atLeast.desc).map (fun d => d.parameters.length) = some 3 := by decide +kernel
def wX11_atLeast : List Cond := Cond.code yX11_atLeast cX11_atLeast 4 none :: TB
def f_X11_atLeast_T36 (M : MM) (x1 : Int32) (x2 : Int32) (x3 : Int32) : Option MM :=
  (z_ld M 42 32 x2).bind fun (v41 : Int32) =>
  (z_ld M 42 32 x1).bind fun (v49 : Int32) =>
  (if v49 ≤ (v41 - x3) then
    some M
  else
    (z_ld M 42 32 x2).bind fun (v63 : Int32) =>
    (z_sto M 42 32 x1 (v63 - x3)).bind fun (M66 : MM) =>
    (z_stb M66 31 14 (1 : Int32)).bind fun (M69 : MM) =>
    some M69
  ).bind fun (j50 : MM) =>
    some j50
def f_X11_atLeast (M : MM) (x1 : Int32) (x2 : Int32) (x3 : Int32) : Option MM :=
  (z_ld M 41 32 x1).bind fun (v5 : Int32) =>
  (z_ld M 41 32 x2).bind fun (v13 : Int32) =>
  (if (v5 + x3) ≤ v13 then
    some M
  else
    (z_ld M 41 32 x1).bind fun (v27 : Int32) =>
    (z_sto M 41 32 x2 (v27 + x3)).bind fun (M30 : MM) =>
    (z_stb M30 31 14 (1 : Int32)).bind fun (M33 : MM) =>
    some M33
  ).bind fun (j14 : MM) =>
    f_X11_atLeast_T36 j14 x1 x2 x3
set_option maxRecDepth 100000 in
set_option maxHeartbeats 4000000 in
theorem tl_X11_atLeast_36 {l : Launch} {g : Gx} {x : Cx} (C : zC g x l RX11 cX11_atLeast wX11_atLeast (rmm 0 0) 4) {M : MM} {x1 : Int32} {x2 : Int32} {x3 : Int32} {r : MM} (h : f_X11_atLeast_T36 M x1 x2 x3 = some r) (E : zRv g x r) : zJ g x M 36 [(0, .ref (ga g 31)), (1, .int x1), (2, .int x2), (3, .int x3)] [] := by
  unfold f_X11_atLeast_T36 at h
  refine z_aload_n C dX11_atLeast_36 rfl ?_
  refine z_get C O_31 13 rfl (fun _ h9 => hsT _ (inX11 _ h9)) (by decide) (hsT _ tw_3_188) dX11_atLeast_37 rfl ?_
  refine z_iload_n C dX11_atLeast_40 rfl ?_
  obtain ⟨v41, h41, h⟩ := e_bd h
  refine z_iald C I_42 h41 dX11_atLeast_41 ?_
  refine z_iload_n C dX11_atLeast_42 rfl ?_
  refine z_isub C dX11_atLeast_43 ?_
  refine z_aload_n C dX11_atLeast_44 rfl ?_
  refine z_get C O_31 13 rfl (fun _ h9 => hsT _ (inX11 _ h9)) (by decide) (hsT _ tw_3_188) dX11_atLeast_45 rfl ?_
  refine z_iload_n C dX11_atLeast_48 rfl ?_
  obtain ⟨v49, h49, h⟩ := e_bd h
  refine z_iald C I_42 h49 dX11_atLeast_49 ?_
  obtain ⟨j50, h50, h⟩ := e_bd h
  have hj50 : zJ g x j50 72 [] [] := by
    obtain rfl := Option.some.inj h
    exact z_vret C E dX11_atLeast_72
  have h := h50
  refine z_icmp_ge 72 C dX11_atLeast_50 (by decide) (fun hc => ?_) (fun hc => ?_)
  · have h := e_t hc h
    obtain rfl := Option.some.inj h
    exact z_sub [] rfl hj50
  · have h := e_f hc h
    refine z_aload_n C dX11_atLeast_53 rfl ?_
    refine z_get C O_31 13 rfl (fun _ h9 => hsT _ (inX11 _ h9)) (by decide) (hsT _ tw_3_188) dX11_atLeast_54 rfl ?_
    refine z_iload_n C dX11_atLeast_57 rfl ?_
    refine z_aload_n C dX11_atLeast_58 rfl ?_
    refine z_get C O_31 13 rfl (fun _ h9 => hsT _ (inX11 _ h9)) (by decide) (hsT _ tw_3_188) dX11_atLeast_59 rfl ?_
    refine z_iload_n C dX11_atLeast_62 rfl ?_
    obtain ⟨v63, h63, h⟩ := e_bd h
    refine z_iald C I_42 h63 dX11_atLeast_63 ?_
    refine z_iload_n C dX11_atLeast_64 rfl ?_
    refine z_isub C dX11_atLeast_65 ?_
    obtain ⟨M66, h66, h⟩ := e_bd h
    refine z_iast C I_42 h66 dX11_atLeast_66 ?_
    refine z_aload_n C dX11_atLeast_67 rfl ?_
    refine z_iconst (1 : Int32) C dX11_atLeast_68 (by decide) ?_
    obtain ⟨M69, h69, h⟩ := e_bd h
    refine z_putz tyX11 C O_31 14 O_31_14 rfl (fun _ h9 => hsT _ (inX11 _ h9)) tyX11_ok nmX11 (by decide) rfl (Nat.le_of_ble_eq_true rfl) (hsT _ tw_3_189) dX11_atLeast_69 rfl h69 ?_
    obtain rfl := Option.some.inj h
    exact z_sub [] rfl hj50
set_option maxRecDepth 100000 in
set_option maxHeartbeats 4000000 in
theorem c_X11_atLeast (l : Launch) (g : Gx) {M : MM} {x1 : Int32} {x2 : Int32} {x3 : Int32} {r : MM} (h : f_X11_atLeast M x1 x2 x3 = some r) : zMv l yX11_atLeast wX11_atLeast (rmm 0 0) [.ref (ga g 31), .int x1, .int x2, .int x3] g M r := by
  refine zMv_of (by decide) rfl (Nat.le_of_ble_eq_true rfl) rfl rfl ?_
  intro x C E
  show zJ g x M 0 [(0, .ref (ga g 31)), (1, .int x1), (2, .int x2), (3, .int x3)] []
  unfold f_X11_atLeast at h
  refine z_aload_n C dX11_atLeast_0 rfl ?_
  refine z_get C O_31 12 rfl (fun _ h9 => hsT _ (inX11 _ h9)) (by decide) (hsT _ tw_3_187) dX11_atLeast_1 rfl ?_
  refine z_iload_n C dX11_atLeast_4 rfl ?_
  obtain ⟨v5, h5, h⟩ := e_bd h
  refine z_iald C I_41 h5 dX11_atLeast_5 ?_
  refine z_iload_n C dX11_atLeast_6 rfl ?_
  refine z_iadd C dX11_atLeast_7 ?_
  refine z_aload_n C dX11_atLeast_8 rfl ?_
  refine z_get C O_31 12 rfl (fun _ h9 => hsT _ (inX11 _ h9)) (by decide) (hsT _ tw_3_187) dX11_atLeast_9 rfl ?_
  refine z_iload_n C dX11_atLeast_12 rfl ?_
  obtain ⟨v13, h13, h⟩ := e_bd h
  refine z_iald C I_41 h13 dX11_atLeast_13 ?_
  obtain ⟨j14, h14, h⟩ := e_bd h
  have hj14 : zJ g x j14 36 [(0, .ref (ga g 31)), (1, .int x1), (2, .int x2), (3, .int x3)] [] := by
    refine z_sub [0, 1, 2, 3] rfl ?_
    exact tl_X11_atLeast_36 C h E
  have h := h14
  refine z_icmp_le 36 C dX11_atLeast_14 (by decide) (fun hc => ?_) (fun hc => ?_)
  · have h := e_t hc h
    obtain rfl := Option.some.inj h
    exact z_sub [0, 1, 2, 3] rfl hj14
  · have h := e_f hc h
    refine z_aload_n C dX11_atLeast_17 rfl ?_
    refine z_get C O_31 12 rfl (fun _ h9 => hsT _ (inX11 _ h9)) (by decide) (hsT _ tw_3_187) dX11_atLeast_18 rfl ?_
    refine z_iload_n C dX11_atLeast_21 rfl ?_
    refine z_aload_n C dX11_atLeast_22 rfl ?_
    refine z_get C O_31 12 rfl (fun _ h9 => hsT _ (inX11 _ h9)) (by decide) (hsT _ tw_3_187) dX11_atLeast_23 rfl ?_
    refine z_iload_n C dX11_atLeast_26 rfl ?_
    obtain ⟨v27, h27, h⟩ := e_bd h
    refine z_iald C I_41 h27 dX11_atLeast_27 ?_
    refine z_iload_n C dX11_atLeast_28 rfl ?_
    refine z_iadd C dX11_atLeast_29 ?_
    obtain ⟨M30, h30, h⟩ := e_bd h
    refine z_iast C I_41 h30 dX11_atLeast_30 ?_
    refine z_aload_n C dX11_atLeast_31 rfl ?_
    refine z_iconst (1 : Int32) C dX11_atLeast_32 (by decide) ?_
    obtain ⟨M33, h33, h⟩ := e_bd h
    refine z_putz tyX11 C O_31 14 O_31_14 rfl (fun _ h9 => hsT _ (inX11 _ h9)) tyX11_ok nmX11 (by decide) rfl (Nat.le_of_ble_eq_true rfl) (hsT _ tw_3_189) dX11_atLeast_33 rfl h33 ?_
    obtain rfl := Option.some.inj h
    exact z_sub [0, 1, 2, 3] rfl hj14
theorem hy_X11_isSpoiled : yX11_isSpoiled.cls = RX11 ∧ yX11_isSpoiled.cls ≠ "java/lang/invoke/MethodHandle" ∧ yX11_isSpoiled.cls ≠ "java/lang/invoke/VarHandle" ∧ (parseMethodDescriptor yX11_isSpoiled.desc).map (fun d => d.parameters.length) = some 0 := by decide +kernel
def wX11_isSpoiled : List Cond := Cond.code yX11_isSpoiled cX11_isSpoiled 3 (some .boolean) :: TB
def f_X11_isSpoiled_L4 : Nat → MM → Int32 → Int32 → Option (Int32)
  | 0, _, _, _ => none
  | n + 1, M, x1, x2 =>
    (z_ld M 32 3243 (0 : Int32)).bind fun (v10 : Int32) =>
    if v10 ≤ x2 then
      some x1
    else
      (if x1 = 0 then
        (z_ld M 41 32 x2).bind fun (v23 : Int32) =>
        (z_ld M 42 32 x2).bind fun (v29 : Int32) =>
        if v29 < v23 then
          some (1 : Int32)
        else
          (z_ld M 41 32 ((16 : Int32) + x2)).bind fun (v41 : Int32) =>
          (z_ld M 42 32 ((16 : Int32) + x2)).bind fun (v50 : Int32) =>
          if v41 ≤ v50 then
            some (0 : Int32)
          else
            some (1 : Int32)
      else
        some (1 : Int32)
      ).bind fun (j15 : Int32) =>
        f_X11_isSpoiled_L4 n M j15 (x2 + (1 : Int32))
def f_X11_isSpoiled (M : MM)  : Option Int32 :=
  (f_X11_isSpoiled_L4 FU M (0 : Int32) (0 : Int32)).bind fun (w4 : Int32) =>
  z_rzp w4
set_option maxRecDepth 100000 in
set_option maxHeartbeats 4000000 in
theorem lp_X11_isSpoiled_4 {l : Launch} {g : Gx} {x : Cx} (C : zC g x l RX11 cX11_isSpoiled wX11_isSpoiled (rmm 0 0) 3) {r : Int32} : ∀ (n : Nat) (M : MM) (x1 x2 : Int32) , f_X11_isSpoiled_L4 n M x1 x2 = some r → zJ g x M 66 [(1, .int r)] [] → zJ g x M 4 [(0, .ref (ga g 31)), (1, .int x1), (2, .int x2)] [] := by
  intro n
  induction n with
  | zero =>
    intro M x1 x2 h hj
    exact absurd h (by simp [f_X11_isSpoiled_L4])
  | succ n ih =>
    intro M x1 x2 h hj
    rw [f_X11_isSpoiled_L4] at h
    refine z_iload_n C dX11_isSpoiled_4 rfl ?_
    refine z_aload_n C dX11_isSpoiled_5 rfl ?_
    refine z_get C O_31 0 rfl (fun _ h9 => hsT _ (inX11 _ h9)) (by decide) (hsT _ tw_3_175) dX11_isSpoiled_6 rfl ?_
    refine z_iconst (0 : Int32) C dX11_isSpoiled_9 (by decide) ?_
    obtain ⟨v10, h10, h⟩ := e_bd h
    refine z_iald C I_32 h10 dX11_isSpoiled_10 ?_
    refine z_icmp_ge 66 C dX11_isSpoiled_11 (by decide) (fun hc => ?_) (fun hc => ?_)
    · have h := e_t hc h
      obtain rfl := Option.some.inj h
      exact z_sub [1] rfl hj
    · have h := e_f hc h
      refine z_iload_n C dX11_isSpoiled_14 rfl ?_
      obtain ⟨j15, h15, h⟩ := e_bd h
      have hj15 : zJ g x M 59 [(0, .ref (ga g 31)), (2, .int x2)] [.int j15] := by
        refine z_istore_n [(1, .int j15), (0, .ref (ga g 31)), (2, .int x2)] C dX11_isSpoiled_59 (by decide) rfl ?_
        refine z_iinc (v := (x2 + (1 : Int32))) [(2, .int (x2 + (1 : Int32))), (1, .int j15), (0, .ref (ga g 31))] C dX11_isSpoiled_60 rfl rfl (by decide) rfl ?_
        refine z_goto 4 C dX11_isSpoiled_63 (by decide) ?_
        refine z_sub [2, 1, 0] rfl ?_
        exact ih _ _ _ h hj
      have h := h15
      refine z_if_ne 54 C dX11_isSpoiled_15 (by decide) (fun hc => ?_) (fun hc => ?_)
      · have h := e_f hc h
        refine z_iconst (1 : Int32) C dX11_isSpoiled_54 (by decide) ?_
        refine z_goto 59 C dX11_isSpoiled_55 (by decide) ?_
        obtain rfl := Option.some.inj h
        exact z_sub [0, 2] rfl hj15
      · have h := e_t hc h
        refine z_aload_n C dX11_isSpoiled_18 rfl ?_
        refine z_get C O_31 12 rfl (fun _ h9 => hsT _ (inX11 _ h9)) (by decide) (hsT _ tw_3_187) dX11_isSpoiled_19 rfl ?_
        refine z_iload_n C dX11_isSpoiled_22 rfl ?_
        obtain ⟨v23, h23, h⟩ := e_bd h
        refine z_iald C I_41 h23 dX11_isSpoiled_23 ?_
        refine z_aload_n C dX11_isSpoiled_24 rfl ?_
        refine z_get C O_31 13 rfl (fun _ h9 => hsT _ (inX11 _ h9)) (by decide) (hsT _ tw_3_188) dX11_isSpoiled_25 rfl ?_
        refine z_iload_n C dX11_isSpoiled_28 rfl ?_
        obtain ⟨v29, h29, h⟩ := e_bd h
        refine z_iald C I_42 h29 dX11_isSpoiled_29 ?_
        refine z_icmp_gt 54 C dX11_isSpoiled_30 (by decide) (fun hc => ?_) (fun hc => ?_)
        · have h := e_t hc h
          refine z_iconst (1 : Int32) C dX11_isSpoiled_54 (by decide) ?_
          refine z_goto 59 C dX11_isSpoiled_55 (by decide) ?_
          obtain rfl := Option.some.inj h
          exact z_sub [0, 2] rfl hj15
        · have h := e_f hc h
          refine z_aload_n C dX11_isSpoiled_33 rfl ?_
          refine z_get C O_31 12 rfl (fun _ h9 => hsT _ (inX11 _ h9)) (by decide) (hsT _ tw_3_187) dX11_isSpoiled_34 rfl ?_
          refine z_bipush (16 : Int32) C dX11_isSpoiled_37 (by decide) ?_
          refine z_iload_n C dX11_isSpoiled_39 rfl ?_
          refine z_iadd C dX11_isSpoiled_40 ?_
          obtain ⟨v41, h41, h⟩ := e_bd h
          refine z_iald C I_41 h41 dX11_isSpoiled_41 ?_
          refine z_aload_n C dX11_isSpoiled_42 rfl ?_
          refine z_get C O_31 13 rfl (fun _ h9 => hsT _ (inX11 _ h9)) (by decide) (hsT _ tw_3_188) dX11_isSpoiled_43 rfl ?_
          refine z_bipush (16 : Int32) C dX11_isSpoiled_46 (by decide) ?_
          refine z_iload_n C dX11_isSpoiled_48 rfl ?_
          refine z_iadd C dX11_isSpoiled_49 ?_
          obtain ⟨v50, h50, h⟩ := e_bd h
          refine z_iald C I_42 h50 dX11_isSpoiled_50 ?_
          refine z_icmp_le 58 C dX11_isSpoiled_51 (by decide) (fun hc => ?_) (fun hc => ?_)
          · have h := e_t hc h
            refine z_iconst (0 : Int32) C dX11_isSpoiled_58 (by decide) ?_
            obtain rfl := Option.some.inj h
            exact z_sub [0, 2] rfl hj15
          · have h := e_f hc h
            refine z_iconst (1 : Int32) C dX11_isSpoiled_54 (by decide) ?_
            refine z_goto 59 C dX11_isSpoiled_55 (by decide) ?_
            obtain rfl := Option.some.inj h
            exact z_sub [0, 2] rfl hj15
set_option maxRecDepth 100000 in
set_option maxHeartbeats 4000000 in
theorem c_X11_isSpoiled (l : Launch) (g : Gx) {M : MM}  {r : Int32} (h : f_X11_isSpoiled M  = some r) : zMi l yX11_isSpoiled wX11_isSpoiled (rmm 0 0) [.ref (ga g 31)] g M r M := by
  refine zMi_of .boolean (by decide) rfl (Nat.le_of_ble_eq_true rfl) rfl rfl ?_
  intro x C E
  show zJ g x M 0 [(0, .ref (ga g 31))] []
  unfold f_X11_isSpoiled at h
  refine z_iconst (0 : Int32) C dX11_isSpoiled_0 (by decide) ?_
  refine z_istore_n [(1, .int (0 : Int32)), (0, .ref (ga g 31))] C dX11_isSpoiled_1 (by decide) rfl ?_
  refine z_iconst (0 : Int32) C dX11_isSpoiled_2 (by decide) ?_
  refine z_istore_n [(2, .int (0 : Int32)), (1, .int (0 : Int32)), (0, .ref (ga g 31))] C dX11_isSpoiled_3 (by decide) rfl ?_
  obtain ⟨w4, h4, h⟩ := e_bd h
  refine z_sub [2, 1, 0] rfl ?_
  refine lp_X11_isSpoiled_4 C _ _ _ _ h4 ?_
  refine z_iload_n C dX11_isSpoiled_66 rfl ?_
  obtain ⟨hz, rfl⟩ := e_rzp h
  exact z_zret C E hz dX11_isSpoiled_67
theorem hy_X11_narrowsOne : yX11_narrowsOne.cls = RX11 ∧ yX11_narrowsOne.cls ≠ "java/lang/invoke/MethodHandle" ∧ yX11_narrowsOne.cls ≠ "java/lang/invoke/VarHandle" ∧ (parseMethodDescriptor yX11_narrowsOne.desc).map (fun d => d.parameters.length) = some 1 := by decide +kernel
def wX11_narrowsOne : List Cond := Cond.code yX11_narrowsOne cX11_narrowsOne 5 none :: TB
def f_X11_narrowsOne_T64 (M : MM) (x1 : Int32) (x4 : Int32) : Option MM :=
  (if x4 = (-1 : Int32) then
    some M
  else
    (f_X11_atLeast M x4 x1 (15 : Int32)).bind fun (M76 : MM) =>
    (f_X11_atLeast M76 x1 x4 (-50 : Int32)).bind fun (M85 : MM) =>
    (f_X11_atLeast M85 x1 ((16 : Int32) + x4) (0 : Int32)).bind fun (M96 : MM) =>
    some M96
  ).bind fun (j67 : MM) =>
    some j67
def f_X11_narrowsOne (M : MM) (x1 : Int32) : Option MM :=
  (z_ld M 32 3243 ((45 : Int32) + x1)).bind fun (v13 : Int32) =>
  (z_ld M 32 3243 ((61 : Int32) + x1)).bind fun (v23 : Int32) =>
  (f_X11_atLeast M x1 ((16 : Int32) + x1) (0 : Int32)).bind fun (M30 : MM) =>
  (f_X11_atLeast M30 ((16 : Int32) + x1) x1 (-100 : Int32)).bind fun (M38 : MM) =>
  (if v13 = (-1 : Int32) then
    some M38
  else
    (f_X11_atLeast M38 v13 x1 (15 : Int32)).bind fun (M51 : MM) =>
    (f_X11_atLeast M51 x1 ((16 : Int32) + v13) (-1 : Int32)).bind fun (M61 : MM) =>
    some M61
  ).bind fun (j43 : MM) =>
    f_X11_narrowsOne_T64 j43 x1 v23
set_option maxRecDepth 100000 in
set_option maxHeartbeats 4000000 in
theorem tl_X11_narrowsOne_64 {l : Launch} {g : Gx} {x : Cx} (C : zC g x l RX11 cX11_narrowsOne wX11_narrowsOne (rmm 1 23) 5) {M : MM} {x1 : Int32} {x4 : Int32} {r : MM} (h : f_X11_narrowsOne_T64 M x1 x4 = some r) (E : zRv g x r) : zJ g x M 64 [(0, .ref (ga g 31)), (1, .int x1), (4, .int x4)] [] := by
  unfold f_X11_narrowsOne_T64 at h
  refine z_iload C dX11_narrowsOne_64 rfl ?_
  refine z_iconst (-1 : Int32) C dX11_narrowsOne_66 (by decide) ?_
  obtain ⟨j67, h67, h⟩ := e_bd h
  have hj67 : zJ g x j67 99 [] [] := by
    obtain rfl := Option.some.inj h
    exact z_vret C E dX11_narrowsOne_99
  have h := h67
  refine z_icmp_eq 99 C dX11_narrowsOne_67 (by decide) (fun hc => ?_) (fun hc => ?_)
  · have h := e_t hc h
    obtain rfl := Option.some.inj h
    exact z_sub [] rfl hj67
  · have h := e_f hc h
    refine z_aload_n C dX11_narrowsOne_70 rfl ?_
    refine z_iload C dX11_narrowsOne_71 rfl ?_
    refine z_iload_n C dX11_narrowsOne_73 rfl ?_
    refine z_bipush (15 : Int32) C dX11_narrowsOne_74 (by decide) ?_
    obtain ⟨M76, h76, h⟩ := e_bd h
    refine z_callVv (As := [.int x4, .int x1, .int (15 : Int32)]) C (c_X11_atLeast l g h76) rfl O_31 rfl (gcV hsT tw_4_53 cw_X11_atLeast) rfl rfl rfl hy_X11_atLeast rfl ⟨Nat.le_of_ble_eq_true rfl, Nat.le_of_ble_eq_true rfl⟩ (Nat.le_of_ble_eq_true rfl) dX11_narrowsOne_76 ?_
    refine z_aload_n C dX11_narrowsOne_79 rfl ?_
    refine z_iload_n C dX11_narrowsOne_80 rfl ?_
    refine z_iload C dX11_narrowsOne_81 rfl ?_
    refine z_bipush (-50 : Int32) C dX11_narrowsOne_83 (by decide) ?_
    obtain ⟨M85, h85, h⟩ := e_bd h
    refine z_callVv (As := [.int x1, .int x4, .int (-50 : Int32)]) C (c_X11_atLeast l g h85) rfl O_31 rfl (gcV hsT tw_4_53 cw_X11_atLeast) rfl rfl rfl hy_X11_atLeast rfl ⟨Nat.le_of_ble_eq_true rfl, Nat.le_of_ble_eq_true rfl⟩ (Nat.le_of_ble_eq_true rfl) dX11_narrowsOne_85 ?_
    refine z_aload_n C dX11_narrowsOne_88 rfl ?_
    refine z_iload_n C dX11_narrowsOne_89 rfl ?_
    refine z_bipush (16 : Int32) C dX11_narrowsOne_90 (by decide) ?_
    refine z_iload C dX11_narrowsOne_92 rfl ?_
    refine z_iadd C dX11_narrowsOne_94 ?_
    refine z_iconst (0 : Int32) C dX11_narrowsOne_95 (by decide) ?_
    obtain ⟨M96, h96, h⟩ := e_bd h
    refine z_callVv (As := [.int x1, .int ((16 : Int32) + x4), .int (0 : Int32)]) C (c_X11_atLeast l g h96) rfl O_31 rfl (gcV hsT tw_4_53 cw_X11_atLeast) rfl rfl rfl hy_X11_atLeast rfl ⟨Nat.le_of_ble_eq_true rfl, Nat.le_of_ble_eq_true rfl⟩ (Nat.le_of_ble_eq_true rfl) dX11_narrowsOne_96 ?_
    obtain rfl := Option.some.inj h
    exact z_sub [] rfl hj67
set_option maxRecDepth 100000 in
set_option maxHeartbeats 4000000 in
theorem c_X11_narrowsOne (l : Launch) (g : Gx) {M : MM} {x1 : Int32} {r : MM} (h : f_X11_narrowsOne M x1 = some r) : zMv l yX11_narrowsOne wX11_narrowsOne (rmm 1 23) [.ref (ga g 31), .int x1] g M r := by
  refine zMv_of (by decide) rfl (Nat.le_of_ble_eq_true rfl) rfl rfl ?_
  intro x C E
  show zJ g x M 0 [(0, .ref (ga g 31)), (1, .int x1)] []
  unfold f_X11_narrowsOne at h
  refine z_bipush (16 : Int32) C dX11_narrowsOne_0 (by decide) ?_
  refine z_iload_n C dX11_narrowsOne_2 rfl ?_
  refine z_iadd C dX11_narrowsOne_3 ?_
  refine z_istore_n [(2, .int ((16 : Int32) + x1)), (0, .ref (ga g 31)), (1, .int x1)] C dX11_narrowsOne_4 (by decide) rfl ?_
  refine z_aload_n C dX11_narrowsOne_5 rfl ?_
  refine z_get C O_31 0 rfl (fun _ h9 => hsT _ (inX11 _ h9)) (by decide) (hsT _ tw_3_175) dX11_narrowsOne_6 rfl ?_
  refine z_bipush (45 : Int32) C dX11_narrowsOne_9 (by decide) ?_
  refine z_iload_n C dX11_narrowsOne_11 rfl ?_
  refine z_iadd C dX11_narrowsOne_12 ?_
  obtain ⟨v13, h13, h⟩ := e_bd h
  refine z_iald C I_32 h13 dX11_narrowsOne_13 ?_
  refine z_istore_n [(3, .int v13), (2, .int ((16 : Int32) + x1)), (0, .ref (ga g 31)), (1, .int x1)] C dX11_narrowsOne_14 (by decide) rfl ?_
  refine z_aload_n C dX11_narrowsOne_15 rfl ?_
  refine z_get C O_31 0 rfl (fun _ h9 => hsT _ (inX11 _ h9)) (by decide) (hsT _ tw_3_175) dX11_narrowsOne_16 rfl ?_
  refine z_bipush (61 : Int32) C dX11_narrowsOne_19 (by decide) ?_
  refine z_iload_n C dX11_narrowsOne_21 rfl ?_
  refine z_iadd C dX11_narrowsOne_22 ?_
  obtain ⟨v23, h23, h⟩ := e_bd h
  refine z_iald C I_32 h23 dX11_narrowsOne_23 ?_
  refine z_istore [(4, .int v23), (3, .int v13), (2, .int ((16 : Int32) + x1)), (0, .ref (ga g 31)), (1, .int x1)] C dX11_narrowsOne_24 (by decide) rfl ?_
  refine z_aload_n C dX11_narrowsOne_26 rfl ?_
  refine z_iload_n C dX11_narrowsOne_27 rfl ?_
  refine z_iload_n C dX11_narrowsOne_28 rfl ?_
  refine z_iconst (0 : Int32) C dX11_narrowsOne_29 (by decide) ?_
  obtain ⟨M30, h30, h⟩ := e_bd h
  refine z_callVv (As := [.int x1, .int ((16 : Int32) + x1), .int (0 : Int32)]) C (c_X11_atLeast l g h30) rfl O_31 rfl (gcV hsT tw_4_53 cw_X11_atLeast) rfl rfl rfl hy_X11_atLeast rfl ⟨Nat.le_of_ble_eq_true rfl, Nat.le_of_ble_eq_true rfl⟩ (Nat.le_of_ble_eq_true rfl) dX11_narrowsOne_30 ?_
  refine z_aload_n C dX11_narrowsOne_33 rfl ?_
  refine z_iload_n C dX11_narrowsOne_34 rfl ?_
  refine z_iload_n C dX11_narrowsOne_35 rfl ?_
  refine z_bipush (-100 : Int32) C dX11_narrowsOne_36 (by decide) ?_
  obtain ⟨M38, h38, h⟩ := e_bd h
  refine z_callVv (As := [.int ((16 : Int32) + x1), .int x1, .int (-100 : Int32)]) C (c_X11_atLeast l g h38) rfl O_31 rfl (gcV hsT tw_4_53 cw_X11_atLeast) rfl rfl rfl hy_X11_atLeast rfl ⟨Nat.le_of_ble_eq_true rfl, Nat.le_of_ble_eq_true rfl⟩ (Nat.le_of_ble_eq_true rfl) dX11_narrowsOne_38 ?_
  refine z_iload_n C dX11_narrowsOne_41 rfl ?_
  refine z_iconst (-1 : Int32) C dX11_narrowsOne_42 (by decide) ?_
  obtain ⟨j43, h43, h⟩ := e_bd h
  have hj43 : zJ g x j43 64 [(0, .ref (ga g 31)), (1, .int x1), (4, .int v23)] [] := by
    refine z_sub [0, 1, 2] rfl ?_
    exact tl_X11_narrowsOne_64 C h E
  have h := h43
  refine z_icmp_eq 64 C dX11_narrowsOne_43 (by decide) (fun hc => ?_) (fun hc => ?_)
  · have h := e_t hc h
    obtain rfl := Option.some.inj h
    exact z_sub [3, 4, 0] rfl hj43
  · have h := e_f hc h
    refine z_aload_n C dX11_narrowsOne_46 rfl ?_
    refine z_iload_n C dX11_narrowsOne_47 rfl ?_
    refine z_iload_n C dX11_narrowsOne_48 rfl ?_
    refine z_bipush (15 : Int32) C dX11_narrowsOne_49 (by decide) ?_
    obtain ⟨M51, h51, h⟩ := e_bd h
    refine z_callVv (As := [.int v13, .int x1, .int (15 : Int32)]) C (c_X11_atLeast l g h51) rfl O_31 rfl (gcV hsT tw_4_53 cw_X11_atLeast) rfl rfl rfl hy_X11_atLeast rfl ⟨Nat.le_of_ble_eq_true rfl, Nat.le_of_ble_eq_true rfl⟩ (Nat.le_of_ble_eq_true rfl) dX11_narrowsOne_51 ?_
    refine z_aload_n C dX11_narrowsOne_54 rfl ?_
    refine z_iload_n C dX11_narrowsOne_55 rfl ?_
    refine z_bipush (16 : Int32) C dX11_narrowsOne_56 (by decide) ?_
    refine z_iload_n C dX11_narrowsOne_58 rfl ?_
    refine z_iadd C dX11_narrowsOne_59 ?_
    refine z_iconst (-1 : Int32) C dX11_narrowsOne_60 (by decide) ?_
    obtain ⟨M61, h61, h⟩ := e_bd h
    refine z_callVv (As := [.int x1, .int ((16 : Int32) + v13), .int (-1 : Int32)]) C (c_X11_atLeast l g h61) rfl O_31 rfl (gcV hsT tw_4_53 cw_X11_atLeast) rfl rfl rfl hy_X11_atLeast rfl ⟨Nat.le_of_ble_eq_true rfl, Nat.le_of_ble_eq_true rfl⟩ (Nat.le_of_ble_eq_true rfl) dX11_narrowsOne_61 ?_
    obtain rfl := Option.some.inj h
    exact z_sub [3, 4, 0] rfl hj43
theorem hy_X11_narrows : yX11_narrows.cls = RX11 ∧ yX11_narrows.cls ≠ "java/lang/invoke/MethodHandle" ∧ yX11_narrows.cls ≠ "java/lang/invoke/VarHandle" ∧ (parseMethodDescriptor yX11_narrows.desc).map (fun d => d.parameters.length) = some 0 := by decide +kernel
def wX11_narrows : List Cond := Cond.code yX11_narrows cX11_narrows 2 (some .boolean) :: TB
def f_X11_narrows_L2 : Nat → MM → Int32 → Option (MM)
  | 0, _, _ => none
  | n + 1, M, x1 =>
    (z_ld M 32 3243 (0 : Int32)).bind fun (v8 : Int32) =>
    if v8 ≤ x1 then
      some M
    else
      (z_ld M 32 3243 ((77 : Int32) + ((2 : Int32) * x1))).bind fun (v27 : Int32) =>
      (z_sto M 41 32 x1 v27).bind fun (M28 : MM) =>
      (z_ld M28 32 3243 (((77 : Int32) + ((2 : Int32) * x1)) + (1 : Int32))).bind fun (v46 : Int32) =>
      (z_sto M28 42 32 x1 v46).bind fun (M47 : MM) =>
      (z_ld M47 32 3243 ((109 : Int32) + ((2 : Int32) * x1))).bind fun (v66 : Int32) =>
      (z_sto M47 41 32 ((16 : Int32) + x1) v66).bind fun (M67 : MM) =>
      (z_ld M67 32 3243 (((109 : Int32) + ((2 : Int32) * x1)) + (1 : Int32))).bind fun (v88 : Int32) =>
      (z_sto M67 42 32 ((16 : Int32) + x1) v88).bind fun (M89 : MM) =>
      f_X11_narrows_L2 n M89 (x1 + (1 : Int32))
def f_X11_narrows_L122 : Nat → MM → Int32 → Option (MM)
  | 0, _, _ => none
  | n + 1, M, x1 =>
    (z_ld M 32 3243 (0 : Int32)).bind fun (v128 : Int32) =>
    if v128 ≤ x1 then
      some M
    else
      (f_X11_narrowsOne M x1).bind fun (M134 : MM) =>
      f_X11_narrows_L122 n M134 (x1 + (1 : Int32))
def f_X11_narrows_L101 : Nat → MM → Option (MM)
  | 0, _ => none
  | n + 1, M =>
    if (M 31 14) = 0 then
      some M
    else
      (f_X11_isSpoiled M ).bind fun (v109 : Int32) =>
      if v109 = 0 then
        (z_stb M 31 14 (0 : Int32)).bind fun (M117 : MM) =>
        (f_X11_narrows_L122 FU M117 (0 : Int32)).bind fun (w122 : MM) =>
        f_X11_narrows_L101 n w122 
      else
        some M
def f_X11_narrows (M : MM)  : Option (Int32 × MM) :=
  (f_X11_narrows_L2 FU M (0 : Int32)).bind fun (w2 : MM) =>
  (z_stb w2 31 14 (1 : Int32)).bind fun (M98 : MM) =>
  (f_X11_narrows_L101 FU M98 ).bind fun (w101 : MM) =>
  (f_X11_isSpoiled w101 ).bind fun (v147 : Int32) =>
  (if v147 = 0 then
    some (1 : Int32)
  else
    some (0 : Int32)
  ).bind fun (j150 : Int32) =>
    z_rz j150 w101
set_option maxRecDepth 100000 in
set_option maxHeartbeats 4000000 in
theorem lp_X11_narrows_2 {l : Launch} {g : Gx} {x : Cx} (C : zC g x l RX11 cX11_narrows wX11_narrows (rmm 2 47) 2) {r : MM} : ∀ (n : Nat) (M : MM) (x1 : Int32) , f_X11_narrows_L2 n M x1 = some r → zJ g x r 96 [(0, .ref (ga g 31))] [] → zJ g x M 2 [(0, .ref (ga g 31)), (1, .int x1)] [] := by
  intro n
  induction n with
  | zero =>
    intro M x1 h hj
    exact absurd h (by simp [f_X11_narrows_L2])
  | succ n ih =>
    intro M x1 h hj
    rw [f_X11_narrows_L2] at h
    refine z_iload_n C dX11_narrows_2 rfl ?_
    refine z_aload_n C dX11_narrows_3 rfl ?_
    refine z_get C O_31 0 rfl (fun _ h9 => hsT _ (inX11 _ h9)) (by decide) (hsT _ tw_3_175) dX11_narrows_4 rfl ?_
    refine z_iconst (0 : Int32) C dX11_narrows_7 (by decide) ?_
    obtain ⟨v8, h8, h⟩ := e_bd h
    refine z_iald C I_32 h8 dX11_narrows_8 ?_
    refine z_icmp_ge 96 C dX11_narrows_9 (by decide) (fun hc => ?_) (fun hc => ?_)
    · have h := e_t hc h
      obtain rfl := Option.some.inj h
      exact z_sub [0] rfl hj
    · have h := e_f hc h
      refine z_aload_n C dX11_narrows_12 rfl ?_
      refine z_get C O_31 12 rfl (fun _ h9 => hsT _ (inX11 _ h9)) (by decide) (hsT _ tw_3_187) dX11_narrows_13 rfl ?_
      refine z_iload_n C dX11_narrows_16 rfl ?_
      refine z_aload_n C dX11_narrows_17 rfl ?_
      refine z_get C O_31 0 rfl (fun _ h9 => hsT _ (inX11 _ h9)) (by decide) (hsT _ tw_3_175) dX11_narrows_18 rfl ?_
      refine z_bipush (77 : Int32) C dX11_narrows_21 (by decide) ?_
      refine z_iconst (2 : Int32) C dX11_narrows_23 (by decide) ?_
      refine z_iload_n C dX11_narrows_24 rfl ?_
      refine z_imul C dX11_narrows_25 ?_
      refine z_iadd C dX11_narrows_26 ?_
      obtain ⟨v27, h27, h⟩ := e_bd h
      refine z_iald C I_32 h27 dX11_narrows_27 ?_
      obtain ⟨M28, h28, h⟩ := e_bd h
      refine z_iast C I_41 h28 dX11_narrows_28 ?_
      refine z_aload_n C dX11_narrows_29 rfl ?_
      refine z_get C O_31 13 rfl (fun _ h9 => hsT _ (inX11 _ h9)) (by decide) (hsT _ tw_3_188) dX11_narrows_30 rfl ?_
      refine z_iload_n C dX11_narrows_33 rfl ?_
      refine z_aload_n C dX11_narrows_34 rfl ?_
      refine z_get C O_31 0 rfl (fun _ h9 => hsT _ (inX11 _ h9)) (by decide) (hsT _ tw_3_175) dX11_narrows_35 rfl ?_
      refine z_bipush (77 : Int32) C dX11_narrows_38 (by decide) ?_
      refine z_iconst (2 : Int32) C dX11_narrows_40 (by decide) ?_
      refine z_iload_n C dX11_narrows_41 rfl ?_
      refine z_imul C dX11_narrows_42 ?_
      refine z_iadd C dX11_narrows_43 ?_
      refine z_iconst (1 : Int32) C dX11_narrows_44 (by decide) ?_
      refine z_iadd C dX11_narrows_45 ?_
      obtain ⟨v46, h46, h⟩ := e_bd h
      refine z_iald C I_32 h46 dX11_narrows_46 ?_
      obtain ⟨M47, h47, h⟩ := e_bd h
      refine z_iast C I_42 h47 dX11_narrows_47 ?_
      refine z_aload_n C dX11_narrows_48 rfl ?_
      refine z_get C O_31 12 rfl (fun _ h9 => hsT _ (inX11 _ h9)) (by decide) (hsT _ tw_3_187) dX11_narrows_49 rfl ?_
      refine z_bipush (16 : Int32) C dX11_narrows_52 (by decide) ?_
      refine z_iload_n C dX11_narrows_54 rfl ?_
      refine z_iadd C dX11_narrows_55 ?_
      refine z_aload_n C dX11_narrows_56 rfl ?_
      refine z_get C O_31 0 rfl (fun _ h9 => hsT _ (inX11 _ h9)) (by decide) (hsT _ tw_3_175) dX11_narrows_57 rfl ?_
      refine z_bipush (109 : Int32) C dX11_narrows_60 (by decide) ?_
      refine z_iconst (2 : Int32) C dX11_narrows_62 (by decide) ?_
      refine z_iload_n C dX11_narrows_63 rfl ?_
      refine z_imul C dX11_narrows_64 ?_
      refine z_iadd C dX11_narrows_65 ?_
      obtain ⟨v66, h66, h⟩ := e_bd h
      refine z_iald C I_32 h66 dX11_narrows_66 ?_
      obtain ⟨M67, h67, h⟩ := e_bd h
      refine z_iast C I_41 h67 dX11_narrows_67 ?_
      refine z_aload_n C dX11_narrows_68 rfl ?_
      refine z_get C O_31 13 rfl (fun _ h9 => hsT _ (inX11 _ h9)) (by decide) (hsT _ tw_3_188) dX11_narrows_69 rfl ?_
      refine z_bipush (16 : Int32) C dX11_narrows_72 (by decide) ?_
      refine z_iload_n C dX11_narrows_74 rfl ?_
      refine z_iadd C dX11_narrows_75 ?_
      refine z_aload_n C dX11_narrows_76 rfl ?_
      refine z_get C O_31 0 rfl (fun _ h9 => hsT _ (inX11 _ h9)) (by decide) (hsT _ tw_3_175) dX11_narrows_77 rfl ?_
      refine z_bipush (109 : Int32) C dX11_narrows_80 (by decide) ?_
      refine z_iconst (2 : Int32) C dX11_narrows_82 (by decide) ?_
      refine z_iload_n C dX11_narrows_83 rfl ?_
      refine z_imul C dX11_narrows_84 ?_
      refine z_iadd C dX11_narrows_85 ?_
      refine z_iconst (1 : Int32) C dX11_narrows_86 (by decide) ?_
      refine z_iadd C dX11_narrows_87 ?_
      obtain ⟨v88, h88, h⟩ := e_bd h
      refine z_iald C I_32 h88 dX11_narrows_88 ?_
      obtain ⟨M89, h89, h⟩ := e_bd h
      refine z_iast C I_42 h89 dX11_narrows_89 ?_
      refine z_iinc (v := (x1 + (1 : Int32))) [(1, .int (x1 + (1 : Int32))), (0, .ref (ga g 31))] C dX11_narrows_90 rfl rfl (by decide) rfl ?_
      refine z_goto 2 C dX11_narrows_93 (by decide) ?_
      refine z_sub [1, 0] rfl ?_
      exact ih _ _ h hj
set_option maxRecDepth 100000 in
set_option maxHeartbeats 4000000 in
theorem lp_X11_narrows_122 {l : Launch} {g : Gx} {x : Cx} (C : zC g x l RX11 cX11_narrows wX11_narrows (rmm 2 47) 2) {r : MM} : ∀ (n : Nat) (M : MM) (x1 : Int32) , f_X11_narrows_L122 n M x1 = some r → zJ g x r 143 [(0, .ref (ga g 31))] [] → zJ g x M 122 [(0, .ref (ga g 31)), (1, .int x1)] [] := by
  intro n
  induction n with
  | zero =>
    intro M x1 h hj
    exact absurd h (by simp [f_X11_narrows_L122])
  | succ n ih =>
    intro M x1 h hj
    rw [f_X11_narrows_L122] at h
    refine z_iload_n C dX11_narrows_122 rfl ?_
    refine z_aload_n C dX11_narrows_123 rfl ?_
    refine z_get C O_31 0 rfl (fun _ h9 => hsT _ (inX11 _ h9)) (by decide) (hsT _ tw_3_175) dX11_narrows_124 rfl ?_
    refine z_iconst (0 : Int32) C dX11_narrows_127 (by decide) ?_
    obtain ⟨v128, h128, h⟩ := e_bd h
    refine z_iald C I_32 h128 dX11_narrows_128 ?_
    refine z_icmp_ge 143 C dX11_narrows_129 (by decide) (fun hc => ?_) (fun hc => ?_)
    · have h := e_t hc h
      obtain rfl := Option.some.inj h
      exact z_sub [0] rfl hj
    · have h := e_f hc h
      refine z_aload_n C dX11_narrows_132 rfl ?_
      refine z_iload_n C dX11_narrows_133 rfl ?_
      obtain ⟨M134, h134, h⟩ := e_bd h
      refine z_callVv (As := [.int x1]) C (c_X11_narrowsOne l g h134) rfl O_31 rfl (gcV hsT tw_4_49 cw_X11_narrowsOne) rfl rfl rfl hy_X11_narrowsOne rfl ⟨Nat.le_of_ble_eq_true rfl, Nat.le_of_ble_eq_true rfl⟩ (Nat.le_of_ble_eq_true rfl) dX11_narrows_134 ?_
      refine z_iinc (v := (x1 + (1 : Int32))) [(1, .int (x1 + (1 : Int32))), (0, .ref (ga g 31))] C dX11_narrows_137 rfl rfl (by decide) rfl ?_
      refine z_goto 122 C dX11_narrows_140 (by decide) ?_
      refine z_sub [1, 0] rfl ?_
      exact ih _ _ h hj
set_option maxRecDepth 100000 in
set_option maxHeartbeats 4000000 in
theorem lp_X11_narrows_101 {l : Launch} {g : Gx} {x : Cx} (C : zC g x l RX11 cX11_narrows wX11_narrows (rmm 2 47) 2) {r : MM} : ∀ (n : Nat) (M : MM) , f_X11_narrows_L101 n M  = some r → zJ g x r 146 [(0, .ref (ga g 31))] [] → zJ g x M 101 [(0, .ref (ga g 31))] [] := by
  intro n
  induction n with
  | zero =>
    intro M  h hj
    exact absurd h (by simp [f_X11_narrows_L101])
  | succ n ih =>
    intro M  h hj
    rw [f_X11_narrows_L101] at h
    refine z_aload_n C dX11_narrows_101 rfl ?_
    refine z_get C O_31 14 rfl (fun _ h9 => hsT _ (inX11 _ h9)) (by decide) (hsT _ tw_3_189) dX11_narrows_102 rfl ?_
    refine z_if_eq 146 C dX11_narrows_105 (by decide) (fun hc => ?_) (fun hc => ?_)
    · have h := e_t hc h
      obtain rfl := Option.some.inj h
      exact z_sub [0] rfl hj
    · have h := e_f hc h
      refine z_aload_n C dX11_narrows_108 rfl ?_
      obtain ⟨v109, h109, h⟩ := e_bd h
      refine z_callVi (As := []) C (c_X11_isSpoiled l g h109) rfl O_31 rfl (gcV hsT tw_4_45 cw_X11_isSpoiled) rfl rfl rfl hy_X11_isSpoiled rfl ⟨Nat.le_of_ble_eq_true rfl, Nat.le_of_ble_eq_true rfl⟩ (Nat.le_of_ble_eq_true rfl) dX11_narrows_109 ?_
      refine z_if_ne 146 C dX11_narrows_112 (by decide) (fun hc => ?_) (fun hc => ?_)
      · have h := e_f hc h
        obtain rfl := Option.some.inj h
        exact z_sub [0] rfl hj
      · have h := e_t hc h
        refine z_aload_n C dX11_narrows_115 rfl ?_
        refine z_iconst (0 : Int32) C dX11_narrows_116 (by decide) ?_
        obtain ⟨M117, h117, h⟩ := e_bd h
        refine z_putz tyX11 C O_31 14 O_31_14 rfl (fun _ h9 => hsT _ (inX11 _ h9)) tyX11_ok nmX11 (by decide) rfl (Nat.le_of_ble_eq_true rfl) (hsT _ tw_3_189) dX11_narrows_117 rfl h117 ?_
        refine z_iconst (0 : Int32) C dX11_narrows_120 (by decide) ?_
        refine z_istore_n [(1, .int (0 : Int32)), (0, .ref (ga g 31))] C dX11_narrows_121 (by decide) rfl ?_
        obtain ⟨w122, h122, h⟩ := e_bd h
        refine z_sub [1, 0] rfl ?_
        refine lp_X11_narrows_122 C _ _ _ h122 ?_
        refine z_goto 101 C dX11_narrows_143 (by decide) ?_
        refine z_sub [0] rfl ?_
        exact ih _  h hj
set_option maxRecDepth 100000 in
set_option maxHeartbeats 4000000 in
theorem c_X11_narrows (l : Launch) (g : Gx) {M : MM}  {r : Int32 × MM} (h : f_X11_narrows M  = some r) : zMi l yX11_narrows wX11_narrows (rmm 2 47) [.ref (ga g 31)] g M r.1 r.2 := by
  refine zMi_of .boolean (by decide) rfl (Nat.le_of_ble_eq_true rfl) rfl rfl ?_
  intro x C E
  show zJ g x M 0 [(0, .ref (ga g 31))] []
  unfold f_X11_narrows at h
  refine z_iconst (0 : Int32) C dX11_narrows_0 (by decide) ?_
  refine z_istore_n [(1, .int (0 : Int32)), (0, .ref (ga g 31))] C dX11_narrows_1 (by decide) rfl ?_
  obtain ⟨w2, h2, h⟩ := e_bd h
  refine z_sub [1, 0] rfl ?_
  refine lp_X11_narrows_2 C _ _ _ h2 ?_
  refine z_aload_n C dX11_narrows_96 rfl ?_
  refine z_iconst (1 : Int32) C dX11_narrows_97 (by decide) ?_
  obtain ⟨M98, h98, h⟩ := e_bd h
  refine z_putz tyX11 C O_31 14 O_31_14 rfl (fun _ h9 => hsT _ (inX11 _ h9)) tyX11_ok nmX11 (by decide) rfl (Nat.le_of_ble_eq_true rfl) (hsT _ tw_3_189) dX11_narrows_98 rfl h98 ?_
  obtain ⟨w101, h101, h⟩ := e_bd h
  refine z_sub [0] rfl ?_
  refine lp_X11_narrows_101 C _ _  h101 ?_
  refine z_aload_n C dX11_narrows_146 rfl ?_
  obtain ⟨v147, h147, h⟩ := e_bd h
  refine z_callVi (As := []) C (c_X11_isSpoiled l g h147) rfl O_31 rfl (gcV hsT tw_4_45 cw_X11_isSpoiled) rfl rfl rfl hy_X11_isSpoiled rfl ⟨Nat.le_of_ble_eq_true rfl, Nat.le_of_ble_eq_true rfl⟩ (Nat.le_of_ble_eq_true rfl) dX11_narrows_147 ?_
  obtain ⟨j150, h150, h⟩ := e_bd h
  have hj150 : zJ g x w101 158 [] [.int j150] := by
    obtain ⟨hz, rfl⟩ := e_rz2 h
    exact z_zret C E hz dX11_narrows_158
  have h := h150
  refine z_if_ne 157 C dX11_narrows_150 (by decide) (fun hc => ?_) (fun hc => ?_)
  · have h := e_f hc h
    refine z_iconst (0 : Int32) C dX11_narrows_157 (by decide) ?_
    obtain rfl := Option.some.inj h
    exact z_sub [] rfl hj150
  · have h := e_t hc h
    refine z_iconst (1 : Int32) C dX11_narrows_153 (by decide) ?_
    refine z_goto 158 C dX11_narrows_154 (by decide) ?_
    obtain rfl := Option.some.inj h
    exact z_sub [] rfl hj150
theorem hy_X11_isAs : yX11_isAs.cls = RX11 ∧ yX11_isAs.cls ≠ "java/lang/invoke/MethodHandle" ∧ yX11_isAs.cls ≠ "java/lang/invoke/VarHandle" ∧ (parseMethodDescriptor yX11_isAs.desc).map (fun d => d.parameters.length) = some 2 := by decide +kernel
def wX11_isAs : List Cond := Cond.code yX11_isAs cX11_isAs 3 (some .boolean) :: TB
def f_X11_isAs (M : MM) (x1 : Int32) (x2 : Int32) : Option Int32 :=
  (z_ld M 32 3243 ((3 : Int32) + x1)).bind fun (v7 : Int32) =>
  (if v7 = (10 : Int32) then
    some (1 : Int32)
  else
    (z_ld M 32 3243 ((3 : Int32) + x1)).bind fun (v20 : Int32) =>
    if v20 = x2 then
      some (1 : Int32)
    else
      some (0 : Int32)
  ).bind fun (j10 : Int32) =>
    z_rzp j10
set_option maxRecDepth 100000 in
set_option maxHeartbeats 4000000 in
theorem c_X11_isAs (l : Launch) (g : Gx) {M : MM} {x1 : Int32} {x2 : Int32} {r : Int32} (h : f_X11_isAs M x1 x2 = some r) : zMi l yX11_isAs wX11_isAs (rmm 0 0) [.ref (ga g 31), .int x1, .int x2] g M r M := by
  refine zMi_of .boolean (by decide) rfl (Nat.le_of_ble_eq_true rfl) rfl rfl ?_
  intro x C E
  show zJ g x M 0 [(0, .ref (ga g 31)), (1, .int x1), (2, .int x2)] []
  unfold f_X11_isAs at h
  refine z_aload_n C dX11_isAs_0 rfl ?_
  refine z_get C O_31 0 rfl (fun _ h9 => hsT _ (inX11 _ h9)) (by decide) (hsT _ tw_3_175) dX11_isAs_1 rfl ?_
  refine z_iconst (3 : Int32) C dX11_isAs_4 (by decide) ?_
  refine z_iload_n C dX11_isAs_5 rfl ?_
  refine z_iadd C dX11_isAs_6 ?_
  obtain ⟨v7, h7, h⟩ := e_bd h
  refine z_iald C I_32 h7 dX11_isAs_7 ?_
  refine z_bipush (10 : Int32) C dX11_isAs_8 (by decide) ?_
  obtain ⟨j10, h10, h⟩ := e_bd h
  have hj10 : zJ g x M 30 [] [.int j10] := by
    obtain ⟨hz, rfl⟩ := e_rzp h
    exact z_zret C E hz dX11_isAs_30
  have h := h10
  refine z_icmp_eq 25 C dX11_isAs_10 (by decide) (fun hc => ?_) (fun hc => ?_)
  · have h := e_t hc h
    refine z_iconst (1 : Int32) C dX11_isAs_25 (by decide) ?_
    refine z_goto 30 C dX11_isAs_26 (by decide) ?_
    obtain rfl := Option.some.inj h
    exact z_sub [] rfl hj10
  · have h := e_f hc h
    refine z_aload_n C dX11_isAs_13 rfl ?_
    refine z_get C O_31 0 rfl (fun _ h9 => hsT _ (inX11 _ h9)) (by decide) (hsT _ tw_3_175) dX11_isAs_14 rfl ?_
    refine z_iconst (3 : Int32) C dX11_isAs_17 (by decide) ?_
    refine z_iload_n C dX11_isAs_18 rfl ?_
    refine z_iadd C dX11_isAs_19 ?_
    obtain ⟨v20, h20, h⟩ := e_bd h
    refine z_iald C I_32 h20 dX11_isAs_20 ?_
    refine z_iload_n C dX11_isAs_21 rfl ?_
    refine z_icmp_ne 29 C dX11_isAs_22 (by decide) (fun hc => ?_) (fun hc => ?_)
    · have h := e_f hc h
      refine z_iconst (0 : Int32) C dX11_isAs_29 (by decide) ?_
      obtain rfl := Option.some.inj h
      exact z_sub [] rfl hj10
    · have h := e_t hc h
      refine z_iconst (1 : Int32) C dX11_isAs_25 (by decide) ?_
      refine z_goto 30 C dX11_isAs_26 (by decide) ?_
      obtain rfl := Option.some.inj h
      exact z_sub [] rfl hj10
theorem hy_X11_isAll : yX11_isAll.cls = RX11 ∧ yX11_isAll.cls ≠ "java/lang/invoke/MethodHandle" ∧ yX11_isAll.cls ≠ "java/lang/invoke/VarHandle" ∧ (parseMethodDescriptor yX11_isAll.desc).map (fun d => d.parameters.length) = some 1 := by decide +kernel
def wX11_isAll : List Cond := Cond.code yX11_isAll cX11_isAll 4 (some .boolean) :: TB
def f_X11_isAll_L32 : Nat → MM → Int32 → Int32 → Int32 → Option (Int32)
  | 0, _, _, _, _ => none
  | n + 1, M, x1, x2, x3 =>
    (z_ld M 38 17 x1).bind fun (v38 : Int32) =>
    if v38 ≤ x3 then
      some x2
    else
      if x2 = 0 then
        some x2
      else
        (z_ld M 39 170 (((10 : Int32) * x1) + x3)).bind fun (v58 : Int32) =>
        (f_X11_isAs M x3 v58).bind fun (v59 : Int32) =>
        f_X11_isAll_L32 n M x1 v59 (x3 + (1 : Int32))
def f_X11_isAll (M : MM) (x1 : Int32) : Option Int32 :=
  (z_ld M 32 3243 (2 : Int32)).bind fun (v5 : Int32) =>
  (if v5 ≤ 0 then
    some (0 : Int32)
  else
    (z_ld M 38 17 x1).bind fun (v14 : Int32) =>
    (z_ld M 32 3243 (2 : Int32)).bind fun (v20 : Int32) =>
    if v14 = v20 then
      some (1 : Int32)
    else
      some (0 : Int32)
  ).bind fun (j6 : Int32) =>
    (f_X11_isAll_L32 FU M x1 j6 (0 : Int32)).bind fun (w32 : Int32) =>
    z_rzp w32
set_option maxRecDepth 100000 in
set_option maxHeartbeats 4000000 in
theorem lp_X11_isAll_32 {l : Launch} {g : Gx} {x : Cx} (C : zC g x l RX11 cX11_isAll wX11_isAll (rmm 1 22) 4) {r : Int32} : ∀ (n : Nat) (M : MM) (x1 x2 x3 : Int32) , f_X11_isAll_L32 n M x1 x2 x3 = some r → zJ g x M 69 [(2, .int r)] [] → zJ g x M 32 [(0, .ref (ga g 31)), (1, .int x1), (2, .int x2), (3, .int x3)] [] := by
  intro n
  induction n with
  | zero =>
    intro M x1 x2 x3 h hj
    exact absurd h (by simp [f_X11_isAll_L32])
  | succ n ih =>
    intro M x1 x2 x3 h hj
    rw [f_X11_isAll_L32] at h
    refine z_iload_n C dX11_isAll_32 rfl ?_
    refine z_aload_n C dX11_isAll_33 rfl ?_
    refine z_get C O_31 9 rfl (fun _ h9 => hsT _ (inX11 _ h9)) (by decide) (hsT _ tw_3_184) dX11_isAll_34 rfl ?_
    refine z_iload_n C dX11_isAll_37 rfl ?_
    obtain ⟨v38, h38, h⟩ := e_bd h
    refine z_iald C I_38 h38 dX11_isAll_38 ?_
    refine z_icmp_ge 69 C dX11_isAll_39 (by decide) (fun hc => ?_) (fun hc => ?_)
    · have h := e_t hc h
      obtain rfl := Option.some.inj h
      exact z_sub [2] rfl hj
    · have h := e_f hc h
      refine z_iload_n C dX11_isAll_42 rfl ?_
      refine z_if_eq 69 C dX11_isAll_43 (by decide) (fun hc => ?_) (fun hc => ?_)
      · have h := e_t hc h
        obtain rfl := Option.some.inj h
        exact z_sub [2] rfl hj
      · have h := e_f hc h
        refine z_aload_n C dX11_isAll_46 rfl ?_
        refine z_iload_n C dX11_isAll_47 rfl ?_
        refine z_aload_n C dX11_isAll_48 rfl ?_
        refine z_get C O_31 10 rfl (fun _ h9 => hsT _ (inX11 _ h9)) (by decide) (hsT _ tw_3_185) dX11_isAll_49 rfl ?_
        refine z_bipush (10 : Int32) C dX11_isAll_52 (by decide) ?_
        refine z_iload_n C dX11_isAll_54 rfl ?_
        refine z_imul C dX11_isAll_55 ?_
        refine z_iload_n C dX11_isAll_56 rfl ?_
        refine z_iadd C dX11_isAll_57 ?_
        obtain ⟨v58, h58, h⟩ := e_bd h
        refine z_iald C I_39 h58 dX11_isAll_58 ?_
        obtain ⟨v59, h59, h⟩ := e_bd h
        refine z_callVi (As := [.int x3, .int v58]) C (c_X11_isAs l g h59) rfl O_31 rfl (gcV hsT tw_4_65 cw_X11_isAs) rfl rfl rfl hy_X11_isAs rfl ⟨Nat.le_of_ble_eq_true rfl, Nat.le_of_ble_eq_true rfl⟩ (Nat.le_of_ble_eq_true rfl) dX11_isAll_59 ?_
        refine z_istore_n [(2, .int v59), (0, .ref (ga g 31)), (1, .int x1), (3, .int x3)] C dX11_isAll_62 (by decide) rfl ?_
        refine z_iinc (v := (x3 + (1 : Int32))) [(3, .int (x3 + (1 : Int32))), (2, .int v59), (0, .ref (ga g 31)), (1, .int x1)] C dX11_isAll_63 rfl rfl (by decide) rfl ?_
        refine z_goto 32 C dX11_isAll_66 (by decide) ?_
        refine z_sub [2, 3, 1, 0] rfl ?_
        exact ih _ _ _ _ h hj
set_option maxRecDepth 100000 in
set_option maxHeartbeats 4000000 in
theorem c_X11_isAll (l : Launch) (g : Gx) {M : MM} {x1 : Int32} {r : Int32} (h : f_X11_isAll M x1 = some r) : zMi l yX11_isAll wX11_isAll (rmm 1 22) [.ref (ga g 31), .int x1] g M r M := by
  refine zMi_of .boolean (by decide) rfl (Nat.le_of_ble_eq_true rfl) rfl rfl ?_
  intro x C E
  show zJ g x M 0 [(0, .ref (ga g 31)), (1, .int x1)] []
  unfold f_X11_isAll at h
  refine z_aload_n C dX11_isAll_0 rfl ?_
  refine z_get C O_31 0 rfl (fun _ h9 => hsT _ (inX11 _ h9)) (by decide) (hsT _ tw_3_175) dX11_isAll_1 rfl ?_
  refine z_iconst (2 : Int32) C dX11_isAll_4 (by decide) ?_
  obtain ⟨v5, h5, h⟩ := e_bd h
  refine z_iald C I_32 h5 dX11_isAll_5 ?_
  obtain ⟨j6, h6, h⟩ := e_bd h
  have hj6 : zJ g x M 29 [(0, .ref (ga g 31)), (1, .int x1)] [.int j6] := by
    refine z_istore_n [(2, .int j6), (0, .ref (ga g 31)), (1, .int x1)] C dX11_isAll_29 (by decide) rfl ?_
    refine z_iconst (0 : Int32) C dX11_isAll_30 (by decide) ?_
    refine z_istore_n [(3, .int (0 : Int32)), (2, .int j6), (0, .ref (ga g 31)), (1, .int x1)] C dX11_isAll_31 (by decide) rfl ?_
    obtain ⟨w32, h32, h⟩ := e_bd h
    refine z_sub [2, 3, 1, 0] rfl ?_
    refine lp_X11_isAll_32 C _ _ _ _ _ h32 ?_
    refine z_iload_n C dX11_isAll_69 rfl ?_
    obtain ⟨hz, rfl⟩ := e_rzp h
    exact z_zret C E hz dX11_isAll_70
  have h := h6
  refine z_if_le 28 C dX11_isAll_6 (by decide) (fun hc => ?_) (fun hc => ?_)
  · have h := e_t hc h
    refine z_iconst (0 : Int32) C dX11_isAll_28 (by decide) ?_
    obtain rfl := Option.some.inj h
    exact z_sub [0, 1] rfl hj6
  · have h := e_f hc h
    refine z_aload_n C dX11_isAll_9 rfl ?_
    refine z_get C O_31 9 rfl (fun _ h9 => hsT _ (inX11 _ h9)) (by decide) (hsT _ tw_3_184) dX11_isAll_10 rfl ?_
    refine z_iload_n C dX11_isAll_13 rfl ?_
    obtain ⟨v14, h14, h⟩ := e_bd h
    refine z_iald C I_38 h14 dX11_isAll_14 ?_
    refine z_aload_n C dX11_isAll_15 rfl ?_
    refine z_get C O_31 0 rfl (fun _ h9 => hsT _ (inX11 _ h9)) (by decide) (hsT _ tw_3_175) dX11_isAll_16 rfl ?_
    refine z_iconst (2 : Int32) C dX11_isAll_19 (by decide) ?_
    obtain ⟨v20, h20, h⟩ := e_bd h
    refine z_iald C I_32 h20 dX11_isAll_20 ?_
    refine z_icmp_ne 28 C dX11_isAll_21 (by decide) (fun hc => ?_) (fun hc => ?_)
    · have h := e_f hc h
      refine z_iconst (0 : Int32) C dX11_isAll_28 (by decide) ?_
      obtain rfl := Option.some.inj h
      exact z_sub [0, 1] rfl hj6
    · have h := e_t hc h
      refine z_iconst (1 : Int32) C dX11_isAll_24 (by decide) ?_
      refine z_goto 29 C dX11_isAll_25 (by decide) ?_
      obtain rfl := Option.some.inj h
      exact z_sub [0, 1] rfl hj6
theorem hy_X11_isSome : yX11_isSome.cls = RX11 ∧ yX11_isSome.cls ≠ "java/lang/invoke/MethodHandle" ∧ yX11_isSome.cls ≠ "java/lang/invoke/VarHandle" ∧ (parseMethodDescriptor yX11_isSome.desc).map (fun d => d.parameters.length) = some 1 := by decide +kernel
def wX11_isSome : List Cond := Cond.code yX11_isSome cX11_isSome 4 (some .boolean) :: TB
def f_X11_isSome_L32 : Nat → MM → Int32 → Int32 → Int32 → Option (Int32)
  | 0, _, _, _, _ => none
  | n + 1, M, x1, x2, x3 =>
    (z_ld M 38 17 x1).bind fun (v38 : Int32) =>
    if v38 ≤ x3 then
      some x2
    else
      (z_ld M 32 3243 (2 : Int32)).bind fun (v49 : Int32) =>
      (if v49 ≤ x2 then
        some (0 : Int32)
      else
        (z_ld M 39 170 (((10 : Int32) * x1) + x3)).bind fun (v65 : Int32) =>
        (f_X11_isAs M x2 v65).bind fun (v66 : Int32) =>
        if v66 = 0 then
          some (0 : Int32)
        else
          some (1 : Int32)
      ).bind fun (j50 : Int32) =>
        f_X11_isSome_L32 n M x1 (x2 + j50) (x3 + (1 : Int32))
def f_X11_isSome (M : MM) (x1 : Int32) : Option Int32 :=
  (z_ld M 32 3243 (2 : Int32)).bind fun (v5 : Int32) =>
  if v5 = 0 then
    z_rzp (0 : Int32)
  else
    (z_ld M 39 170 ((10 : Int32) * x1)).bind fun (v19 : Int32) =>
    (f_X11_isAs M (0 : Int32) v19).bind fun (v20 : Int32) =>
    if v20 = 0 then
      z_rzp (0 : Int32)
    else
      (f_X11_isSome_L32 FU M x1 (1 : Int32) (1 : Int32)).bind fun (w32 : Int32) =>
      (z_ld M 32 3243 (2 : Int32)).bind fun (v91 : Int32) =>
      (if w32 = v91 then
        some (1 : Int32)
      else
        some (0 : Int32)
      ).bind fun (j92 : Int32) =>
        z_rzp j92
set_option maxRecDepth 100000 in
set_option maxHeartbeats 4000000 in
theorem lp_X11_isSome_32 {l : Launch} {g : Gx} {x : Cx} (C : zC g x l RX11 cX11_isSome wX11_isSome (rmm 1 22) 4) {r : Int32} : ∀ (n : Nat) (M : MM) (x1 x2 x3 : Int32) , f_X11_isSome_L32 n M x1 x2 x3 = some r → zJ g x M 85 [(0, .ref (ga g 31)), (2, .int r)] [] → zJ g x M 32 [(0, .ref (ga g 31)), (1, .int x1), (2, .int x2), (3, .int x3)] [] := by
  intro n
  induction n with
  | zero =>
    intro M x1 x2 x3 h hj
    exact absurd h (by simp [f_X11_isSome_L32])
  | succ n ih =>
    intro M x1 x2 x3 h hj
    rw [f_X11_isSome_L32] at h
    refine z_iload_n C dX11_isSome_32 rfl ?_
    refine z_aload_n C dX11_isSome_33 rfl ?_
    refine z_get C O_31 9 rfl (fun _ h9 => hsT _ (inX11 _ h9)) (by decide) (hsT _ tw_3_184) dX11_isSome_34 rfl ?_
    refine z_iload_n C dX11_isSome_37 rfl ?_
    obtain ⟨v38, h38, h⟩ := e_bd h
    refine z_iald C I_38 h38 dX11_isSome_38 ?_
    refine z_icmp_ge 85 C dX11_isSome_39 (by decide) (fun hc => ?_) (fun hc => ?_)
    · have h := e_t hc h
      obtain rfl := Option.some.inj h
      exact z_sub [0, 2] rfl hj
    · have h := e_f hc h
      refine z_iload_n C dX11_isSome_42 rfl ?_
      refine z_iload_n C dX11_isSome_43 rfl ?_
      refine z_aload_n C dX11_isSome_44 rfl ?_
      refine z_get C O_31 0 rfl (fun _ h9 => hsT _ (inX11 _ h9)) (by decide) (hsT _ tw_3_175) dX11_isSome_45 rfl ?_
      refine z_iconst (2 : Int32) C dX11_isSome_48 (by decide) ?_
      obtain ⟨v49, h49, h⟩ := e_bd h
      refine z_iald C I_32 h49 dX11_isSome_49 ?_
      obtain ⟨j50, h50, h⟩ := e_bd h
      have hj50 : zJ g x M 77 [(0, .ref (ga g 31)), (1, .int x1), (3, .int x3)] [.int j50, .int x2] := by
        refine z_iadd C dX11_isSome_77 ?_
        refine z_istore_n [(2, .int (x2 + j50)), (0, .ref (ga g 31)), (1, .int x1), (3, .int x3)] C dX11_isSome_78 (by decide) rfl ?_
        refine z_iinc (v := (x3 + (1 : Int32))) [(3, .int (x3 + (1 : Int32))), (2, .int (x2 + j50)), (0, .ref (ga g 31)), (1, .int x1)] C dX11_isSome_79 rfl rfl (by decide) rfl ?_
        refine z_goto 32 C dX11_isSome_82 (by decide) ?_
        refine z_sub [2, 3, 1, 0] rfl ?_
        exact ih _ _ _ _ h hj
      have h := h50
      refine z_icmp_ge 76 C dX11_isSome_50 (by decide) (fun hc => ?_) (fun hc => ?_)
      · have h := e_t hc h
        refine z_iconst (0 : Int32) C dX11_isSome_76 (by decide) ?_
        obtain rfl := Option.some.inj h
        exact z_sub [0, 1, 3] rfl hj50
      · have h := e_f hc h
        refine z_aload_n C dX11_isSome_53 rfl ?_
        refine z_iload_n C dX11_isSome_54 rfl ?_
        refine z_aload_n C dX11_isSome_55 rfl ?_
        refine z_get C O_31 10 rfl (fun _ h9 => hsT _ (inX11 _ h9)) (by decide) (hsT _ tw_3_185) dX11_isSome_56 rfl ?_
        refine z_bipush (10 : Int32) C dX11_isSome_59 (by decide) ?_
        refine z_iload_n C dX11_isSome_61 rfl ?_
        refine z_imul C dX11_isSome_62 ?_
        refine z_iload_n C dX11_isSome_63 rfl ?_
        refine z_iadd C dX11_isSome_64 ?_
        obtain ⟨v65, h65, h⟩ := e_bd h
        refine z_iald C I_39 h65 dX11_isSome_65 ?_
        obtain ⟨v66, h66, h⟩ := e_bd h
        refine z_callVi (As := [.int x2, .int v65]) C (c_X11_isAs l g h66) rfl O_31 rfl (gcV hsT tw_4_65 cw_X11_isAs) rfl rfl rfl hy_X11_isAs rfl ⟨Nat.le_of_ble_eq_true rfl, Nat.le_of_ble_eq_true rfl⟩ (Nat.le_of_ble_eq_true rfl) dX11_isSome_66 ?_
        refine z_if_eq 76 C dX11_isSome_69 (by decide) (fun hc => ?_) (fun hc => ?_)
        · have h := e_t hc h
          refine z_iconst (0 : Int32) C dX11_isSome_76 (by decide) ?_
          obtain rfl := Option.some.inj h
          exact z_sub [0, 1, 3] rfl hj50
        · have h := e_f hc h
          refine z_iconst (1 : Int32) C dX11_isSome_72 (by decide) ?_
          refine z_goto 77 C dX11_isSome_73 (by decide) ?_
          obtain rfl := Option.some.inj h
          exact z_sub [0, 1, 3] rfl hj50
set_option maxRecDepth 100000 in
set_option maxHeartbeats 4000000 in
theorem c_X11_isSome (l : Launch) (g : Gx) {M : MM} {x1 : Int32} {r : Int32} (h : f_X11_isSome M x1 = some r) : zMi l yX11_isSome wX11_isSome (rmm 1 22) [.ref (ga g 31), .int x1] g M r M := by
  refine zMi_of .boolean (by decide) rfl (Nat.le_of_ble_eq_true rfl) rfl rfl ?_
  intro x C E
  show zJ g x M 0 [(0, .ref (ga g 31)), (1, .int x1)] []
  unfold f_X11_isSome at h
  refine z_aload_n C dX11_isSome_0 rfl ?_
  refine z_get C O_31 0 rfl (fun _ h9 => hsT _ (inX11 _ h9)) (by decide) (hsT _ tw_3_175) dX11_isSome_1 rfl ?_
  refine z_iconst (2 : Int32) C dX11_isSome_4 (by decide) ?_
  obtain ⟨v5, h5, h⟩ := e_bd h
  refine z_iald C I_32 h5 dX11_isSome_5 ?_
  refine z_if_eq 26 C dX11_isSome_6 (by decide) (fun hc => ?_) (fun hc => ?_)
  · have h := e_t hc h
    refine z_iconst (0 : Int32) C dX11_isSome_26 (by decide) ?_
    obtain ⟨hz, rfl⟩ := e_rzp h
    exact z_zret C E hz dX11_isSome_27
  · have h := e_f hc h
    refine z_aload_n C dX11_isSome_9 rfl ?_
    refine z_iconst (0 : Int32) C dX11_isSome_10 (by decide) ?_
    refine z_aload_n C dX11_isSome_11 rfl ?_
    refine z_get C O_31 10 rfl (fun _ h9 => hsT _ (inX11 _ h9)) (by decide) (hsT _ tw_3_185) dX11_isSome_12 rfl ?_
    refine z_bipush (10 : Int32) C dX11_isSome_15 (by decide) ?_
    refine z_iload_n C dX11_isSome_17 rfl ?_
    refine z_imul C dX11_isSome_18 ?_
    obtain ⟨v19, h19, h⟩ := e_bd h
    refine z_iald C I_39 h19 dX11_isSome_19 ?_
    obtain ⟨v20, h20, h⟩ := e_bd h
    refine z_callVi (As := [.int (0 : Int32), .int v19]) C (c_X11_isAs l g h20) rfl O_31 rfl (gcV hsT tw_4_65 cw_X11_isAs) rfl rfl rfl hy_X11_isAs rfl ⟨Nat.le_of_ble_eq_true rfl, Nat.le_of_ble_eq_true rfl⟩ (Nat.le_of_ble_eq_true rfl) dX11_isSome_20 ?_
    refine z_if_ne 28 C dX11_isSome_23 (by decide) (fun hc => ?_) (fun hc => ?_)
    · have h := e_f hc h
      refine z_iconst (1 : Int32) C dX11_isSome_28 (by decide) ?_
      refine z_istore_n [(2, .int (1 : Int32)), (0, .ref (ga g 31)), (1, .int x1)] C dX11_isSome_29 (by decide) rfl ?_
      refine z_iconst (1 : Int32) C dX11_isSome_30 (by decide) ?_
      refine z_istore_n [(3, .int (1 : Int32)), (2, .int (1 : Int32)), (0, .ref (ga g 31)), (1, .int x1)] C dX11_isSome_31 (by decide) rfl ?_
      obtain ⟨w32, h32, h⟩ := e_bd h
      refine z_sub [2, 3, 1, 0] rfl ?_
      refine lp_X11_isSome_32 C _ _ _ _ _ h32 ?_
      refine z_iload_n C dX11_isSome_85 rfl ?_
      refine z_aload_n C dX11_isSome_86 rfl ?_
      refine z_get C O_31 0 rfl (fun _ h9 => hsT _ (inX11 _ h9)) (by decide) (hsT _ tw_3_175) dX11_isSome_87 rfl ?_
      refine z_iconst (2 : Int32) C dX11_isSome_90 (by decide) ?_
      obtain ⟨v91, h91, h⟩ := e_bd h
      refine z_iald C I_32 h91 dX11_isSome_91 ?_
      obtain ⟨j92, h92, h⟩ := e_bd h
      have hj92 : zJ g x M 100 [] [.int j92] := by
        obtain ⟨hz, rfl⟩ := e_rzp h
        exact z_zret C E hz dX11_isSome_100
      have h := h92
      refine z_icmp_ne 99 C dX11_isSome_92 (by decide) (fun hc => ?_) (fun hc => ?_)
      · have h := e_f hc h
        refine z_iconst (0 : Int32) C dX11_isSome_99 (by decide) ?_
        obtain rfl := Option.some.inj h
        exact z_sub [] rfl hj92
      · have h := e_t hc h
        refine z_iconst (1 : Int32) C dX11_isSome_95 (by decide) ?_
        refine z_goto 100 C dX11_isSome_96 (by decide) ?_
        obtain rfl := Option.some.inj h
        exact z_sub [] rfl hj92
    · have h := e_t hc h
      refine z_iconst (0 : Int32) C dX11_isSome_26 (by decide) ?_
      obtain ⟨hz, rfl⟩ := e_rzp h
      exact z_zret C E hz dX11_isSome_27
theorem hy_X11_meant : yX11_meant.cls = RX11 ∧ yX11_meant.cls ≠ "java/lang/invoke/MethodHandle" ∧ yX11_meant.cls ≠ "java/lang/invoke/VarHandle" ∧ (parseMethodDescriptor yX11_meant.desc).map (fun d => d.parameters.length) = some 1 := by decide +kernel
def wX11_meant : List Cond := Cond.code yX11_meant cX11_meant 4 (some .int) :: TB
def f_X11_meant_L8 : Nat → MM → Int32 → Int32 → Int32 → Option (Int32)
  | 0, _, _, _, _ => none
  | n + 1, M, x1, x2, x3 =>
    (z_ld M 32 3243 (0 : Int32)).bind fun (v14 : Int32) =>
    if v14 ≤ x3 then
      some x2
    else
      (if x1 = 0 then
        (f_X11_isSome M x3).bind fun (v36 : Int32) =>
        if v36 = 0 then
          some (0 : Int32)
        else
          some ((1 : Int32) <<< (x3 &&& 31))
      else
        (f_X11_isAll M x3).bind fun (v25 : Int32) =>
        if v25 = 0 then
          some (0 : Int32)
        else
          some ((1 : Int32) <<< (x3 &&& 31))
      ).bind fun (j20 : Int32) =>
        f_X11_meant_L8 n M x1 (x2 ||| j20) (x3 + (1 : Int32))
def f_X11_meant (M : MM) (x1 : Int32) : Option (Int32 × MM) :=
  (f_X11_lays M ).bind fun (M1 : MM) =>
  (f_X11_meant_L8 FU M1 x1 (0 : Int32) (0 : Int32)).bind fun (w8 : Int32) =>
  some (w8, M1)
set_option maxRecDepth 100000 in
set_option maxHeartbeats 4000000 in
theorem lp_X11_meant_8 {l : Launch} {g : Gx} {x : Cx} (C : zC g x l RX11 cX11_meant wX11_meant (rmm 6 136) 4) {r : Int32} : ∀ (n : Nat) (M : MM) (x1 x2 x3 : Int32) , f_X11_meant_L8 n M x1 x2 x3 = some r → zJ g x M 57 [(2, .int r)] [] → zJ g x M 8 [(0, .ref (ga g 31)), (1, .int x1), (2, .int x2), (3, .int x3)] [] := by
  intro n
  induction n with
  | zero =>
    intro M x1 x2 x3 h hj
    exact absurd h (by simp [f_X11_meant_L8])
  | succ n ih =>
    intro M x1 x2 x3 h hj
    rw [f_X11_meant_L8] at h
    refine z_iload_n C dX11_meant_8 rfl ?_
    refine z_aload_n C dX11_meant_9 rfl ?_
    refine z_get C O_31 0 rfl (fun _ h9 => hsT _ (inX11 _ h9)) (by decide) (hsT _ tw_3_175) dX11_meant_10 rfl ?_
    refine z_iconst (0 : Int32) C dX11_meant_13 (by decide) ?_
    obtain ⟨v14, h14, h⟩ := e_bd h
    refine z_iald C I_32 h14 dX11_meant_14 ?_
    refine z_icmp_ge 57 C dX11_meant_15 (by decide) (fun hc => ?_) (fun hc => ?_)
    · have h := e_t hc h
      obtain rfl := Option.some.inj h
      exact z_sub [2] rfl hj
    · have h := e_f hc h
      refine z_iload_n C dX11_meant_18 rfl ?_
      refine z_iload_n C dX11_meant_19 rfl ?_
      obtain ⟨j20, h20, h⟩ := e_bd h
      have hj20 : zJ g x M 49 [(0, .ref (ga g 31)), (1, .int x1), (3, .int x3)] [.int j20, .int x2] := by
        refine z_ior C dX11_meant_49 ?_
        refine z_istore_n [(2, .int (x2 ||| j20)), (0, .ref (ga g 31)), (1, .int x1), (3, .int x3)] C dX11_meant_50 (by decide) rfl ?_
        refine z_iinc (v := (x3 + (1 : Int32))) [(3, .int (x3 + (1 : Int32))), (2, .int (x2 ||| j20)), (0, .ref (ga g 31)), (1, .int x1)] C dX11_meant_51 rfl rfl (by decide) rfl ?_
        refine z_goto 8 C dX11_meant_54 (by decide) ?_
        refine z_sub [2, 3, 1, 0] rfl ?_
        exact ih _ _ _ _ h hj
      have h := h20
      refine z_if_eq 34 C dX11_meant_20 (by decide) (fun hc => ?_) (fun hc => ?_)
      · have h := e_t hc h
        refine z_aload_n C dX11_meant_34 rfl ?_
        refine z_iload_n C dX11_meant_35 rfl ?_
        obtain ⟨v36, h36, h⟩ := e_bd h
        refine z_callVi (As := [.int x3]) C (c_X11_isSome l g h36) rfl O_31 rfl (gcV hsT tw_4_69 cw_X11_isSome) rfl rfl rfl hy_X11_isSome rfl ⟨Nat.le_of_ble_eq_true rfl, Nat.le_of_ble_eq_true rfl⟩ (Nat.le_of_ble_eq_true rfl) dX11_meant_36 ?_
        refine z_if_eq 48 C dX11_meant_39 (by decide) (fun hc => ?_) (fun hc => ?_)
        · have h := e_t hc h
          refine z_iconst (0 : Int32) C dX11_meant_48 (by decide) ?_
          obtain rfl := Option.some.inj h
          exact z_sub [0, 1, 3] rfl hj20
        · have h := e_f hc h
          refine z_iconst (1 : Int32) C dX11_meant_42 (by decide) ?_
          refine z_iload_n C dX11_meant_43 rfl ?_
          refine z_ishl C dX11_meant_44 ?_
          refine z_goto 49 C dX11_meant_45 (by decide) ?_
          obtain rfl := Option.some.inj h
          exact z_sub [0, 1, 3] rfl hj20
      · have h := e_f hc h
        refine z_aload_n C dX11_meant_23 rfl ?_
        refine z_iload_n C dX11_meant_24 rfl ?_
        obtain ⟨v25, h25, h⟩ := e_bd h
        refine z_callVi (As := [.int x3]) C (c_X11_isAll l g h25) rfl O_31 rfl (gcV hsT tw_4_61 cw_X11_isAll) rfl rfl rfl hy_X11_isAll rfl ⟨Nat.le_of_ble_eq_true rfl, Nat.le_of_ble_eq_true rfl⟩ (Nat.le_of_ble_eq_true rfl) dX11_meant_25 ?_
        refine z_if_eq 48 C dX11_meant_28 (by decide) (fun hc => ?_) (fun hc => ?_)
        · have h := e_t hc h
          refine z_iconst (0 : Int32) C dX11_meant_48 (by decide) ?_
          obtain rfl := Option.some.inj h
          exact z_sub [0, 1, 3] rfl hj20
        · have h := e_f hc h
          refine z_goto 42 C dX11_meant_31 (by decide) ?_
          refine z_iconst (1 : Int32) C dX11_meant_42 (by decide) ?_
          refine z_iload_n C dX11_meant_43 rfl ?_
          refine z_ishl C dX11_meant_44 ?_
          refine z_goto 49 C dX11_meant_45 (by decide) ?_
          obtain rfl := Option.some.inj h
          exact z_sub [0, 1, 3] rfl hj20
set_option maxRecDepth 100000 in
set_option maxHeartbeats 4000000 in
theorem c_X11_meant (l : Launch) (g : Gx) {M : MM} {x1 : Int32} {r : Int32 × MM} (h : f_X11_meant M x1 = some r) : zMi l yX11_meant wX11_meant (rmm 6 136) [.ref (ga g 31), .int x1] g M r.1 r.2 := by
  refine zMi_of .int (by decide) rfl (Nat.le_of_ble_eq_true rfl) rfl rfl ?_
  intro x C E
  show zJ g x M 0 [(0, .ref (ga g 31)), (1, .int x1)] []
  unfold f_X11_meant at h
  refine z_aload_n C dX11_meant_0 rfl ?_
  obtain ⟨M1, h1, h⟩ := e_bd h
  refine z_callVv (As := []) C (c_X11_lays l g h1) rfl O_31 rfl (gcV hsT tw_4_17 cw_X11_lays) rfl rfl rfl hy_X11_lays rfl ⟨Nat.le_of_ble_eq_true rfl, Nat.le_of_ble_eq_true rfl⟩ (Nat.le_of_ble_eq_true rfl) dX11_meant_1 ?_
  refine z_iconst (0 : Int32) C dX11_meant_4 (by decide) ?_
  refine z_istore_n [(2, .int (0 : Int32)), (0, .ref (ga g 31)), (1, .int x1)] C dX11_meant_5 (by decide) rfl ?_
  refine z_iconst (0 : Int32) C dX11_meant_6 (by decide) ?_
  refine z_istore_n [(3, .int (0 : Int32)), (2, .int (0 : Int32)), (0, .ref (ga g 31)), (1, .int x1)] C dX11_meant_7 (by decide) rfl ?_
  obtain ⟨w8, h8, h⟩ := e_bd h
  refine z_sub [2, 3, 1, 0] rfl ?_
  refine lp_X11_meant_8 C _ _ _ _ _ h8 ?_
  refine z_iload_n C dX11_meant_57 rfl ?_
  obtain rfl := Option.some.inj h
  exact z_iret C E dX11_meant_58
theorem hy_X11_like : yX11_like.cls = RX11 ∧ yX11_like.cls ≠ "java/lang/invoke/MethodHandle" ∧ yX11_like.cls ≠ "java/lang/invoke/VarHandle" ∧ (parseMethodDescriptor yX11_like.desc).map (fun d => d.parameters.length) = some 1 := by decide +kernel
def wX11_like : List Cond := Cond.code yX11_like cX11_like 7 (some .int) :: TB
def f_X11_like_L2 : Nat → MM → Int32 → Int32 → Option (MM)
  | 0, _, _, _ => none
  | n + 1, M, x1, x2 =>
    (z_ld M 38 17 x1).bind fun (v8 : Int32) =>
    if v8 < x2 then
      some M
    else
      (z_sto M 43 11 x2 (0 : Int32)).bind fun (M18 : MM) =>
      f_X11_like_L2 n M18 x1 (x2 + (1 : Int32))
def f_X11_like_L42 : Nat → MM → Int32 → Int32 → Int32 → Int32 → Option (MM)
  | 0, _, _, _, _, _ => none
  | n + 1, M, x1, x2, x3, x4 =>
    (z_ld M 38 17 x1).bind fun (v49 : Int32) =>
    if v49 ≤ x4 then
      some M
    else
      (z_ld M 32 3243 ((3 : Int32) + x2)).bind fun (v60 : Int32) =>
      if v60 = (10 : Int32) then
        some M
      else
        (z_ld M 43 11 (x4 + (1 : Int32))).bind fun (v74 : Int32) =>
        (z_ld M 39 170 (((10 : Int32) * x1) + x4)).bind fun (v88 : Int32) =>
        (z_ld M 32 3243 ((3 : Int32) + x2)).bind fun (v96 : Int32) =>
        (if v88 = v96 then
          some (x3 + (1 : Int32))
        else
          some v74
        ).bind fun (j97 : Int32) =>
          (if v74 ≤ j97 then
            some j97
          else
            some v74
          ).bind fun (j114 : Int32) =>
            (z_ld M 43 11 x4).bind fun (v142 : Int32) =>
            (if v142 ≤ j114 then
              some j114
            else
              (z_ld M 43 11 x4).bind fun (v152 : Int32) =>
              some v152
            ).bind fun (j143 : Int32) =>
              (z_sto M 43 11 (x4 + (1 : Int32)) j143).bind fun (M158 : MM) =>
              f_X11_like_L42 n M158 x1 x2 v74 (x4 + (1 : Int32))
def f_X11_like_L27 : Nat → MM → Int32 → Int32 → Option (MM)
  | 0, _, _, _ => none
  | n + 1, M, x1, x2 =>
    (z_ld M 32 3243 (2 : Int32)).bind fun (v33 : Int32) =>
    if v33 ≤ x2 then
      some M
    else
      (f_X11_like_L42 FU M x1 x2 (0 : Int32) (0 : Int32)).bind fun (w42 : MM) =>
      f_X11_like_L27 n w42 x1 (x2 + (1 : Int32))
def f_X11_like (M : MM) (x1 : Int32) : Option (Int32 × MM) :=
  (f_X11_like_L2 FU M x1 (0 : Int32)).bind fun (w2 : MM) =>
  (f_X11_like_L27 FU w2 x1 (0 : Int32)).bind fun (w27 : MM) =>
  (z_ld w27 38 17 x1).bind fun (v183 : Int32) =>
  (z_ld w27 43 11 v183).bind fun (v184 : Int32) =>
  some (v184, w27)
set_option maxRecDepth 100000 in
set_option maxHeartbeats 4000000 in
theorem lp_X11_like_2 {l : Launch} {g : Gx} {x : Cx} (C : zC g x l RX11 cX11_like wX11_like (rmm 0 0) 7) {r : MM} : ∀ (n : Nat) (M : MM) (x1 x2 : Int32) , f_X11_like_L2 n M x1 x2 = some r → zJ g x r 25 [(0, .ref (ga g 31)), (1, .int x1)] [] → zJ g x M 2 [(0, .ref (ga g 31)), (1, .int x1), (2, .int x2)] [] := by
  intro n
  induction n with
  | zero =>
    intro M x1 x2 h hj
    exact absurd h (by simp [f_X11_like_L2])
  | succ n ih =>
    intro M x1 x2 h hj
    rw [f_X11_like_L2] at h
    refine z_iload_n C dX11_like_2 rfl ?_
    refine z_aload_n C dX11_like_3 rfl ?_
    refine z_get C O_31 9 rfl (fun _ h9 => hsT _ (inX11 _ h9)) (by decide) (hsT _ tw_3_184) dX11_like_4 rfl ?_
    refine z_iload_n C dX11_like_7 rfl ?_
    obtain ⟨v8, h8, h⟩ := e_bd h
    refine z_iald C I_38 h8 dX11_like_8 ?_
    refine z_icmp_gt 25 C dX11_like_9 (by decide) (fun hc => ?_) (fun hc => ?_)
    · have h := e_t hc h
      obtain rfl := Option.some.inj h
      exact z_sub [0, 1] rfl hj
    · have h := e_f hc h
      refine z_aload_n C dX11_like_12 rfl ?_
      refine z_get C O_31 15 rfl (fun _ h9 => hsT _ (inX11 _ h9)) (by decide) (hsT _ tw_3_190) dX11_like_13 rfl ?_
      refine z_iload_n C dX11_like_16 rfl ?_
      refine z_iconst (0 : Int32) C dX11_like_17 (by decide) ?_
      obtain ⟨M18, h18, h⟩ := e_bd h
      refine z_iast C I_43 h18 dX11_like_18 ?_
      refine z_iinc (v := (x2 + (1 : Int32))) [(2, .int (x2 + (1 : Int32))), (0, .ref (ga g 31)), (1, .int x1)] C dX11_like_19 rfl rfl (by decide) rfl ?_
      refine z_goto 2 C dX11_like_22 (by decide) ?_
      refine z_sub [1, 2, 0] rfl ?_
      exact ih _ _ _ h hj
set_option maxRecDepth 100000 in
set_option maxHeartbeats 4000000 in
theorem lp_X11_like_42 {l : Launch} {g : Gx} {x : Cx} (C : zC g x l RX11 cX11_like wX11_like (rmm 0 0) 7) {r : MM} : ∀ (n : Nat) (M : MM) (x1 x2 x3 x4 : Int32) , f_X11_like_L42 n M x1 x2 x3 x4 = some r → zJ g x r 168 [(0, .ref (ga g 31)), (1, .int x1), (2, .int x2)] [] → zJ g x M 42 [(0, .ref (ga g 31)), (1, .int x1), (2, .int x2), (3, .int x3), (4, .int x4)] [] := by
  intro n
  induction n with
  | zero =>
    intro M x1 x2 x3 x4 h hj
    exact absurd h (by simp [f_X11_like_L42])
  | succ n ih =>
    intro M x1 x2 x3 x4 h hj
    rw [f_X11_like_L42] at h
    refine z_iload C dX11_like_42 rfl ?_
    refine z_aload_n C dX11_like_44 rfl ?_
    refine z_get C O_31 9 rfl (fun _ h9 => hsT _ (inX11 _ h9)) (by decide) (hsT _ tw_3_184) dX11_like_45 rfl ?_
    refine z_iload_n C dX11_like_48 rfl ?_
    obtain ⟨v49, h49, h⟩ := e_bd h
    refine z_iald C I_38 h49 dX11_like_49 ?_
    refine z_icmp_ge 168 C dX11_like_50 (by decide) (fun hc => ?_) (fun hc => ?_)
    · have h := e_t hc h
      obtain rfl := Option.some.inj h
      exact z_sub [0, 1, 2] rfl hj
    · have h := e_f hc h
      refine z_aload_n C dX11_like_53 rfl ?_
      refine z_get C O_31 0 rfl (fun _ h9 => hsT _ (inX11 _ h9)) (by decide) (hsT _ tw_3_175) dX11_like_54 rfl ?_
      refine z_iconst (3 : Int32) C dX11_like_57 (by decide) ?_
      refine z_iload_n C dX11_like_58 rfl ?_
      refine z_iadd C dX11_like_59 ?_
      obtain ⟨v60, h60, h⟩ := e_bd h
      refine z_iald C I_32 h60 dX11_like_60 ?_
      refine z_bipush (10 : Int32) C dX11_like_61 (by decide) ?_
      refine z_icmp_eq 168 C dX11_like_63 (by decide) (fun hc => ?_) (fun hc => ?_)
      · have h := e_t hc h
        obtain rfl := Option.some.inj h
        exact z_sub [0, 1, 2] rfl hj
      · have h := e_f hc h
        refine z_aload_n C dX11_like_66 rfl ?_
        refine z_get C O_31 15 rfl (fun _ h9 => hsT _ (inX11 _ h9)) (by decide) (hsT _ tw_3_190) dX11_like_67 rfl ?_
        refine z_iload C dX11_like_70 rfl ?_
        refine z_iconst (1 : Int32) C dX11_like_72 (by decide) ?_
        refine z_iadd C dX11_like_73 ?_
        obtain ⟨v74, h74, h⟩ := e_bd h
        refine z_iald C I_43 h74 dX11_like_74 ?_
        refine z_istore [(5, .int v74), (0, .ref (ga g 31)), (1, .int x1), (2, .int x2), (3, .int x3), (4, .int x4)] C dX11_like_75 (by decide) rfl ?_
        refine z_aload_n C dX11_like_77 rfl ?_
        refine z_get C O_31 10 rfl (fun _ h9 => hsT _ (inX11 _ h9)) (by decide) (hsT _ tw_3_185) dX11_like_78 rfl ?_
        refine z_bipush (10 : Int32) C dX11_like_81 (by decide) ?_
        refine z_iload_n C dX11_like_83 rfl ?_
        refine z_imul C dX11_like_84 ?_
        refine z_iload C dX11_like_85 rfl ?_
        refine z_iadd C dX11_like_87 ?_
        obtain ⟨v88, h88, h⟩ := e_bd h
        refine z_iald C I_39 h88 dX11_like_88 ?_
        refine z_aload_n C dX11_like_89 rfl ?_
        refine z_get C O_31 0 rfl (fun _ h9 => hsT _ (inX11 _ h9)) (by decide) (hsT _ tw_3_175) dX11_like_90 rfl ?_
        refine z_iconst (3 : Int32) C dX11_like_93 (by decide) ?_
        refine z_iload_n C dX11_like_94 rfl ?_
        refine z_iadd C dX11_like_95 ?_
        obtain ⟨v96, h96, h⟩ := e_bd h
        refine z_iald C I_32 h96 dX11_like_96 ?_
        obtain ⟨j97, h97, h⟩ := e_bd h
        have hj97 : zJ g x M 108 [(0, .ref (ga g 31)), (1, .int x1), (2, .int x2), (4, .int x4), (5, .int v74)] [.int j97] := by
          refine z_istore [(6, .int j97), (0, .ref (ga g 31)), (1, .int x1), (2, .int x2), (4, .int x4), (5, .int v74)] C dX11_like_108 (by decide) rfl ?_
          refine z_iload C dX11_like_110 rfl ?_
          refine z_iload C dX11_like_112 rfl ?_
          obtain ⟨j114, h114, h⟩ := e_bd h
          have hj114 : zJ g x M 124 [(0, .ref (ga g 31)), (1, .int x1), (2, .int x2), (4, .int x4), (5, .int v74)] [.int j114] := by
            refine z_istore [(6, .int j114), (0, .ref (ga g 31)), (1, .int x1), (2, .int x2), (4, .int x4), (5, .int v74)] C dX11_like_124 (by decide) rfl ?_
            refine z_aload_n C dX11_like_126 rfl ?_
            refine z_get C O_31 15 rfl (fun _ h9 => hsT _ (inX11 _ h9)) (by decide) (hsT _ tw_3_190) dX11_like_127 rfl ?_
            refine z_iload C dX11_like_130 rfl ?_
            refine z_iconst (1 : Int32) C dX11_like_132 (by decide) ?_
            refine z_iadd C dX11_like_133 ?_
            refine z_iload C dX11_like_134 rfl ?_
            refine z_aload_n C dX11_like_136 rfl ?_
            refine z_get C O_31 15 rfl (fun _ h9 => hsT _ (inX11 _ h9)) (by decide) (hsT _ tw_3_190) dX11_like_137 rfl ?_
            refine z_iload C dX11_like_140 rfl ?_
            obtain ⟨v142, h142, h⟩ := e_bd h
            refine z_iald C I_43 h142 dX11_like_142 ?_
            obtain ⟨j143, h143, h⟩ := e_bd h
            have hj143 : zJ g x M 158 [(0, .ref (ga g 31)), (1, .int x1), (2, .int x2), (4, .int x4), (5, .int v74)] [.int j143, .int (x4 + (1 : Int32)), .ref (ga g 43)] := by
              obtain ⟨M158, h158, h⟩ := e_bd h
              refine z_iast C I_43 h158 dX11_like_158 ?_
              refine z_iload C dX11_like_159 rfl ?_
              refine z_istore_n [(3, .int v74), (0, .ref (ga g 31)), (1, .int x1), (2, .int x2), (4, .int x4), (5, .int v74)] C dX11_like_161 (by decide) rfl ?_
              refine z_iinc (v := (x4 + (1 : Int32))) [(4, .int (x4 + (1 : Int32))), (3, .int v74), (0, .ref (ga g 31)), (1, .int x1), (2, .int x2), (5, .int v74)] C dX11_like_162 rfl rfl (by decide) rfl ?_
              refine z_goto 42 C dX11_like_165 (by decide) ?_
              refine z_sub [2, 3, 4, 1, 0] rfl ?_
              exact ih _ _ _ _ _ h hj
            have h := h143
            refine z_icmp_ge 156 C dX11_like_143 (by decide) (fun hc => ?_) (fun hc => ?_)
            · have h := e_t hc h
              refine z_iload C dX11_like_156 rfl ?_
              obtain rfl := Option.some.inj h
              exact z_sub [1, 2, 3, 4, 5] rfl hj143
            · have h := e_f hc h
              refine z_aload_n C dX11_like_146 rfl ?_
              refine z_get C O_31 15 rfl (fun _ h9 => hsT _ (inX11 _ h9)) (by decide) (hsT _ tw_3_190) dX11_like_147 rfl ?_
              refine z_iload C dX11_like_150 rfl ?_
              obtain ⟨v152, h152, h⟩ := e_bd h
              refine z_iald C I_43 h152 dX11_like_152 ?_
              refine z_goto 158 C dX11_like_153 (by decide) ?_
              obtain rfl := Option.some.inj h
              exact z_sub [1, 2, 3, 4, 5] rfl hj143
          have h := h114
          refine z_icmp_ge 122 C dX11_like_114 (by decide) (fun hc => ?_) (fun hc => ?_)
          · have h := e_t hc h
            refine z_iload C dX11_like_122 rfl ?_
            obtain rfl := Option.some.inj h
            exact z_sub [1, 2, 3, 4, 5] rfl hj114
          · have h := e_f hc h
            refine z_iload C dX11_like_117 rfl ?_
            refine z_goto 124 C dX11_like_119 (by decide) ?_
            obtain rfl := Option.some.inj h
            exact z_sub [1, 2, 3, 4, 5] rfl hj114
        have h := h97
        refine z_icmp_ne 106 C dX11_like_97 (by decide) (fun hc => ?_) (fun hc => ?_)
        · have h := e_f hc h
          refine z_iload C dX11_like_106 rfl ?_
          obtain rfl := Option.some.inj h
          exact z_sub [1, 2, 3, 5, 0] rfl hj97
        · have h := e_t hc h
          refine z_iload_n C dX11_like_100 rfl ?_
          refine z_iconst (1 : Int32) C dX11_like_101 (by decide) ?_
          refine z_iadd C dX11_like_102 ?_
          refine z_goto 108 C dX11_like_103 (by decide) ?_
          obtain rfl := Option.some.inj h
          exact z_sub [1, 2, 3, 5, 0] rfl hj97
set_option maxRecDepth 100000 in
set_option maxHeartbeats 4000000 in
theorem lp_X11_like_27 {l : Launch} {g : Gx} {x : Cx} (C : zC g x l RX11 cX11_like wX11_like (rmm 0 0) 7) {r : MM} : ∀ (n : Nat) (M : MM) (x1 x2 : Int32) , f_X11_like_L27 n M x1 x2 = some r → zJ g x r 174 [(0, .ref (ga g 31)), (1, .int x1)] [] → zJ g x M 27 [(0, .ref (ga g 31)), (1, .int x1), (2, .int x2)] [] := by
  intro n
  induction n with
  | zero =>
    intro M x1 x2 h hj
    exact absurd h (by simp [f_X11_like_L27])
  | succ n ih =>
    intro M x1 x2 h hj
    rw [f_X11_like_L27] at h
    refine z_iload_n C dX11_like_27 rfl ?_
    refine z_aload_n C dX11_like_28 rfl ?_
    refine z_get C O_31 0 rfl (fun _ h9 => hsT _ (inX11 _ h9)) (by decide) (hsT _ tw_3_175) dX11_like_29 rfl ?_
    refine z_iconst (2 : Int32) C dX11_like_32 (by decide) ?_
    obtain ⟨v33, h33, h⟩ := e_bd h
    refine z_iald C I_32 h33 dX11_like_33 ?_
    refine z_icmp_ge 174 C dX11_like_34 (by decide) (fun hc => ?_) (fun hc => ?_)
    · have h := e_t hc h
      obtain rfl := Option.some.inj h
      exact z_sub [0, 1] rfl hj
    · have h := e_f hc h
      refine z_iconst (0 : Int32) C dX11_like_37 (by decide) ?_
      refine z_istore_n [(3, .int (0 : Int32)), (0, .ref (ga g 31)), (1, .int x1), (2, .int x2)] C dX11_like_38 (by decide) rfl ?_
      refine z_iconst (0 : Int32) C dX11_like_39 (by decide) ?_
      refine z_istore [(4, .int (0 : Int32)), (3, .int (0 : Int32)), (0, .ref (ga g 31)), (1, .int x1), (2, .int x2)] C dX11_like_40 (by decide) rfl ?_
      obtain ⟨w42, h42, h⟩ := e_bd h
      refine z_sub [2, 3, 4, 1, 0] rfl ?_
      refine lp_X11_like_42 C _ _ _ _ _ _ h42 ?_
      refine z_iinc (v := (x2 + (1 : Int32))) [(2, .int (x2 + (1 : Int32))), (0, .ref (ga g 31)), (1, .int x1)] C dX11_like_168 rfl rfl (by decide) rfl ?_
      refine z_goto 27 C dX11_like_171 (by decide) ?_
      refine z_sub [1, 2, 0] rfl ?_
      exact ih _ _ _ h hj
set_option maxRecDepth 100000 in
set_option maxHeartbeats 4000000 in
theorem c_X11_like (l : Launch) (g : Gx) {M : MM} {x1 : Int32} {r : Int32 × MM} (h : f_X11_like M x1 = some r) : zMi l yX11_like wX11_like (rmm 0 0) [.ref (ga g 31), .int x1] g M r.1 r.2 := by
  refine zMi_of .int (by decide) rfl (Nat.le_of_ble_eq_true rfl) rfl rfl ?_
  intro x C E
  show zJ g x M 0 [(0, .ref (ga g 31)), (1, .int x1)] []
  unfold f_X11_like at h
  refine z_iconst (0 : Int32) C dX11_like_0 (by decide) ?_
  refine z_istore_n [(2, .int (0 : Int32)), (0, .ref (ga g 31)), (1, .int x1)] C dX11_like_1 (by decide) rfl ?_
  obtain ⟨w2, h2, h⟩ := e_bd h
  refine z_sub [1, 2, 0] rfl ?_
  refine lp_X11_like_2 C _ _ _ _ h2 ?_
  refine z_iconst (0 : Int32) C dX11_like_25 (by decide) ?_
  refine z_istore_n [(2, .int (0 : Int32)), (0, .ref (ga g 31)), (1, .int x1)] C dX11_like_26 (by decide) rfl ?_
  obtain ⟨w27, h27, h⟩ := e_bd h
  refine z_sub [1, 2, 0] rfl ?_
  refine lp_X11_like_27 C _ _ _ _ h27 ?_
  refine z_aload_n C dX11_like_174 rfl ?_
  refine z_get C O_31 15 rfl (fun _ h9 => hsT _ (inX11 _ h9)) (by decide) (hsT _ tw_3_190) dX11_like_175 rfl ?_
  refine z_aload_n C dX11_like_178 rfl ?_
  refine z_get C O_31 9 rfl (fun _ h9 => hsT _ (inX11 _ h9)) (by decide) (hsT _ tw_3_184) dX11_like_179 rfl ?_
  refine z_iload_n C dX11_like_182 rfl ?_
  obtain ⟨v183, h183, h⟩ := e_bd h
  refine z_iald C I_38 h183 dX11_like_183 ?_
  obtain ⟨v184, h184, h⟩ := e_bd h
  refine z_iald C I_43 h184 dX11_like_184 ?_
  obtain rfl := Option.some.inj h
  exact z_iret C E dX11_like_185
theorem hy_X11_likely : yX11_likely.cls = RX11 ∧ yX11_likely.cls ≠ "java/lang/invoke/MethodHandle" ∧ yX11_likely.cls ≠ "java/lang/invoke/VarHandle" ∧ (parseMethodDescriptor yX11_likely.desc).map (fun d => d.parameters.length) = some 0 := by decide +kernel
def wX11_likely : List Cond := Cond.code yX11_likely cX11_likely 5 (some .int) :: TB
def f_X11_likely_L10 : Nat → MM → Int32 → Int32 → Int32 → Option (MM × Int32)
  | 0, _, _, _, _ => none
  | n + 1, M, x1, x2, x3 =>
    (z_ld M 32 3243 (0 : Int32)).bind fun (v16 : Int32) =>
    if v16 ≤ x3 then
      some (M, x1)
    else
      (f_X11_like M x3).bind fun (s22 : Int32 × MM) =>
      (if x2 < s22.1 then
        some (x3, s22.1)
      else
        if s22.1 = x2 then
          if x1 = (-1 : Int32) then
            some (x1, x2)
          else
            (z_ld s22.2 38 17 x3).bind fun (v49 : Int32) =>
            (z_ld s22.2 38 17 x1).bind fun (v55 : Int32) =>
            if v55 ≤ v49 then
              some (x1, x2)
            else
              some (x3, s22.1)
        else
          some (x1, x2)
      ).bind fun (j30 : Int32 × Int32) =>
        f_X11_likely_L10 n s22.2 j30.1 j30.2 (x3 + (1 : Int32))
def f_X11_likely (M : MM)  : Option (Int32 × MM) :=
  (f_X11_lays M ).bind fun (M1 : MM) =>
  (f_X11_likely_L10 FU M1 (-1 : Int32) (0 : Int32) (0 : Int32)).bind fun (w10 : MM × Int32) =>
  some (w10.2, w10.1)
set_option maxRecDepth 100000 in
set_option maxHeartbeats 4000000 in
theorem lp_X11_likely_10 {l : Launch} {g : Gx} {x : Cx} (C : zC g x l RX11 cX11_likely wX11_likely (rmm 6 136) 5) {r : MM × Int32} : ∀ (n : Nat) (M : MM) (x1 x2 x3 : Int32) , f_X11_likely_L10 n M x1 x2 x3 = some r → zJ g x r.1 70 [(1, .int r.2)] [] → zJ g x M 10 [(0, .ref (ga g 31)), (1, .int x1), (2, .int x2), (3, .int x3)] [] := by
  intro n
  induction n with
  | zero =>
    intro M x1 x2 x3 h hj
    exact absurd h (by simp [f_X11_likely_L10])
  | succ n ih =>
    intro M x1 x2 x3 h hj
    rw [f_X11_likely_L10] at h
    refine z_iload_n C dX11_likely_10 rfl ?_
    refine z_aload_n C dX11_likely_11 rfl ?_
    refine z_get C O_31 0 rfl (fun _ h9 => hsT _ (inX11 _ h9)) (by decide) (hsT _ tw_3_175) dX11_likely_12 rfl ?_
    refine z_iconst (0 : Int32) C dX11_likely_15 (by decide) ?_
    obtain ⟨v16, h16, h⟩ := e_bd h
    refine z_iald C I_32 h16 dX11_likely_16 ?_
    refine z_icmp_ge 70 C dX11_likely_17 (by decide) (fun hc => ?_) (fun hc => ?_)
    · have h := e_t hc h
      obtain rfl := Option.some.inj h
      exact z_sub [1] rfl hj
    · have h := e_f hc h
      refine z_aload_n C dX11_likely_20 rfl ?_
      refine z_iload_n C dX11_likely_21 rfl ?_
      obtain ⟨s22, h22, h⟩ := e_bd h
      refine z_callVi (As := [.int x3]) C (c_X11_like l g h22) rfl O_31 rfl (gcV hsT tw_4_77 cw_X11_like) rfl rfl rfl hy_X11_like rfl ⟨Nat.le_of_ble_eq_true rfl, Nat.le_of_ble_eq_true rfl⟩ (Nat.le_of_ble_eq_true rfl) dX11_likely_22 ?_
      refine z_istore [(4, .int s22.1), (0, .ref (ga g 31)), (1, .int x1), (2, .int x2), (3, .int x3)] C dX11_likely_25 (by decide) rfl ?_
      refine z_iload C dX11_likely_27 rfl ?_
      refine z_iload_n C dX11_likely_29 rfl ?_
      obtain ⟨j30, h30, h⟩ := e_bd h
      have hj30 : zJ g x s22.2 64 [(0, .ref (ga g 31)), (1, .int j30.1), (2, .int j30.2), (3, .int x3)] [] := by
        refine z_iinc (v := (x3 + (1 : Int32))) [(3, .int (x3 + (1 : Int32))), (0, .ref (ga g 31)), (1, .int j30.1), (2, .int j30.2)] C dX11_likely_64 rfl rfl (by decide) rfl ?_
        refine z_goto 10 C dX11_likely_67 (by decide) ?_
        refine z_sub [1, 2, 3, 0] rfl ?_
        exact ih _ _ _ _ h hj
      have h := h30
      refine z_icmp_gt 59 C dX11_likely_30 (by decide) (fun hc => ?_) (fun hc => ?_)
      · have h := e_t hc h
        refine z_iload_n C dX11_likely_59 rfl ?_
        refine z_istore_n [(1, .int x3), (4, .int s22.1), (0, .ref (ga g 31)), (2, .int x2), (3, .int x3)] C dX11_likely_60 (by decide) rfl ?_
        refine z_iload C dX11_likely_61 rfl ?_
        refine z_istore_n [(2, .int s22.1), (1, .int x3), (4, .int s22.1), (0, .ref (ga g 31)), (3, .int x3)] C dX11_likely_63 (by decide) rfl ?_
        obtain rfl := Option.some.inj h
        exact z_sub [3, 1, 0, 4] rfl hj30
      · have h := e_f hc h
        refine z_iload C dX11_likely_33 rfl ?_
        refine z_iload_n C dX11_likely_35 rfl ?_
        refine z_icmp_ne 64 C dX11_likely_36 (by decide) (fun hc => ?_) (fun hc => ?_)
        · have h := e_f hc h
          obtain rfl := Option.some.inj h
          exact z_sub [1, 2, 3, 4] rfl hj30
        · have h := e_t hc h
          refine z_iload_n C dX11_likely_39 rfl ?_
          refine z_iconst (-1 : Int32) C dX11_likely_40 (by decide) ?_
          refine z_icmp_eq 64 C dX11_likely_41 (by decide) (fun hc => ?_) (fun hc => ?_)
          · have h := e_t hc h
            obtain rfl := Option.some.inj h
            exact z_sub [1, 2, 3, 4] rfl hj30
          · have h := e_f hc h
            refine z_aload_n C dX11_likely_44 rfl ?_
            refine z_get C O_31 9 rfl (fun _ h9 => hsT _ (inX11 _ h9)) (by decide) (hsT _ tw_3_184) dX11_likely_45 rfl ?_
            refine z_iload_n C dX11_likely_48 rfl ?_
            obtain ⟨v49, h49, h⟩ := e_bd h
            refine z_iald C I_38 h49 dX11_likely_49 ?_
            refine z_aload_n C dX11_likely_50 rfl ?_
            refine z_get C O_31 9 rfl (fun _ h9 => hsT _ (inX11 _ h9)) (by decide) (hsT _ tw_3_184) dX11_likely_51 rfl ?_
            refine z_iload_n C dX11_likely_54 rfl ?_
            obtain ⟨v55, h55, h⟩ := e_bd h
            refine z_iald C I_38 h55 dX11_likely_55 ?_
            refine z_icmp_ge 64 C dX11_likely_56 (by decide) (fun hc => ?_) (fun hc => ?_)
            · have h := e_t hc h
              obtain rfl := Option.some.inj h
              exact z_sub [1, 2, 3, 4] rfl hj30
            · have h := e_f hc h
              refine z_iload_n C dX11_likely_59 rfl ?_
              refine z_istore_n [(1, .int x3), (4, .int s22.1), (0, .ref (ga g 31)), (2, .int x2), (3, .int x3)] C dX11_likely_60 (by decide) rfl ?_
              refine z_iload C dX11_likely_61 rfl ?_
              refine z_istore_n [(2, .int s22.1), (1, .int x3), (4, .int s22.1), (0, .ref (ga g 31)), (3, .int x3)] C dX11_likely_63 (by decide) rfl ?_
              obtain rfl := Option.some.inj h
              exact z_sub [3, 1, 0, 4] rfl hj30
set_option maxRecDepth 100000 in
set_option maxHeartbeats 4000000 in
theorem c_X11_likely (l : Launch) (g : Gx) {M : MM}  {r : Int32 × MM} (h : f_X11_likely M  = some r) : zMi l yX11_likely wX11_likely (rmm 6 136) [.ref (ga g 31)] g M r.1 r.2 := by
  refine zMi_of .int (by decide) rfl (Nat.le_of_ble_eq_true rfl) rfl rfl ?_
  intro x C E
  show zJ g x M 0 [(0, .ref (ga g 31))] []
  unfold f_X11_likely at h
  refine z_aload_n C dX11_likely_0 rfl ?_
  obtain ⟨M1, h1, h⟩ := e_bd h
  refine z_callVv (As := []) C (c_X11_lays l g h1) rfl O_31 rfl (gcV hsT tw_4_17 cw_X11_lays) rfl rfl rfl hy_X11_lays rfl ⟨Nat.le_of_ble_eq_true rfl, Nat.le_of_ble_eq_true rfl⟩ (Nat.le_of_ble_eq_true rfl) dX11_likely_1 ?_
  refine z_iconst (-1 : Int32) C dX11_likely_4 (by decide) ?_
  refine z_istore_n [(1, .int (-1 : Int32)), (0, .ref (ga g 31))] C dX11_likely_5 (by decide) rfl ?_
  refine z_iconst (0 : Int32) C dX11_likely_6 (by decide) ?_
  refine z_istore_n [(2, .int (0 : Int32)), (1, .int (-1 : Int32)), (0, .ref (ga g 31))] C dX11_likely_7 (by decide) rfl ?_
  refine z_iconst (0 : Int32) C dX11_likely_8 (by decide) ?_
  refine z_istore_n [(3, .int (0 : Int32)), (2, .int (0 : Int32)), (1, .int (-1 : Int32)), (0, .ref (ga g 31))] C dX11_likely_9 (by decide) rfl ?_
  obtain ⟨w10, h10, h⟩ := e_bd h
  refine z_sub [3, 2, 1, 0] rfl ?_
  refine lp_X11_likely_10 C _ _ _ _ _ h10 ?_
  refine z_iload_n C dX11_likely_70 rfl ?_
  obtain rfl := Option.some.inj h
  exact z_iret C E dX11_likely_71
