theorem hy_X4_handOn : yX4_handOn.cls ≠ "java/lang/invoke/MethodHandle" ∧ yX4_handOn.cls ≠ "java/lang/invoke/VarHandle" ∧ (parseMethodDescriptor yX4_handOn.desc).map (fun d => d.parameters.length) = some 3 := by decide +kernel
def wX4_handOn : List Cond := Cond.code yX4_handOn cX4_handOn 3 none :: TB
def f_X4_handOn (qa : Nat) (M : MM) (x1 : Int32) (x2 : Int32) : Option MM :=
  (if x1 < 0 then
    some M
  else
    if (16 : Int32) ≤ x1 then
      some M
    else
      (z_ld M qa 16 x1).bind fun (v12 : Int32) =>
      if v12 = (-1 : Int32) then
        (z_sto M qa 16 x1 x2).bind fun (M27 : MM) =>
        some M27
      else
        (z_ld M qa 16 x1).bind fun (v20 : Int32) =>
        if v20 ≤ x2 then
          some M
        else
          (z_sto M qa 16 x1 x2).bind fun (M27 : MM) =>
          some M27
  ).bind fun (j1 : MM) =>
    some j1
set_option maxRecDepth 100000 in
set_option maxHeartbeats 4000000 in
theorem c_X4_handOn_20 (l : Launch) (g : Gx) {M : MM} {x1 : Int32} {x2 : Int32} {r : MM} (h : f_X4_handOn 20 M x1 x2 = some r) : zMv l yX4_handOn wX4_handOn (rmm 0 0) [.ref (ga g 20), .int x1, .int x2] g M r := by
  refine zMv_of (by decide) rfl (Nat.le_of_ble_eq_true rfl) rfl rfl ?_
  intro x C E
  show zJ g x M 0 [(0, .ref (ga g 20)), (1, .int x1), (2, .int x2)] []
  unfold f_X4_handOn at h
  refine z_iload_n C dX4_handOn_0 rfl ?_
  obtain ⟨j1, h1, h⟩ := e_bd h
  have hj1 : zJ g x j1 28 [] [] := by
    obtain rfl := Option.some.inj h
    exact z_vret C E dX4_handOn_28
  have h := h1
  refine z_if_lt 28 C dX4_handOn_1 (by decide) (fun hc => ?_) (fun hc => ?_)
  · have h := e_t hc h
    obtain rfl := Option.some.inj h
    exact z_sub [] rfl hj1
  · have h := e_f hc h
    refine z_iload_n C dX4_handOn_4 rfl ?_
    refine z_aload_n C dX4_handOn_5 rfl ?_
    refine z_alen (16 : Int32) C I_20 (by decide) dX4_handOn_6 ?_
    refine z_icmp_ge 28 C dX4_handOn_7 (by decide) (fun hc => ?_) (fun hc => ?_)
    · have h := e_t hc h
      obtain rfl := Option.some.inj h
      exact z_sub [] rfl hj1
    · have h := e_f hc h
      refine z_aload_n C dX4_handOn_10 rfl ?_
      refine z_iload_n C dX4_handOn_11 rfl ?_
      obtain ⟨v12, h12, h⟩ := e_bd h
      refine z_iald C I_20 h12 dX4_handOn_12 ?_
      refine z_iconst (-1 : Int32) C dX4_handOn_13 (by decide) ?_
      refine z_icmp_eq 24 C dX4_handOn_14 (by decide) (fun hc => ?_) (fun hc => ?_)
      · have h := e_t hc h
        refine z_aload_n C dX4_handOn_24 rfl ?_
        refine z_iload_n C dX4_handOn_25 rfl ?_
        refine z_iload_n C dX4_handOn_26 rfl ?_
        obtain ⟨M27, h27, h⟩ := e_bd h
        refine z_iast C I_20 h27 dX4_handOn_27 ?_
        obtain rfl := Option.some.inj h
        exact z_sub [] rfl hj1
      · have h := e_f hc h
        refine z_iload_n C dX4_handOn_17 rfl ?_
        refine z_aload_n C dX4_handOn_18 rfl ?_
        refine z_iload_n C dX4_handOn_19 rfl ?_
        obtain ⟨v20, h20, h⟩ := e_bd h
        refine z_iald C I_20 h20 dX4_handOn_20 ?_
        refine z_icmp_ge 28 C dX4_handOn_21 (by decide) (fun hc => ?_) (fun hc => ?_)
        · have h := e_t hc h
          obtain rfl := Option.some.inj h
          exact z_sub [] rfl hj1
        · have h := e_f hc h
          refine z_aload_n C dX4_handOn_24 rfl ?_
          refine z_iload_n C dX4_handOn_25 rfl ?_
          refine z_iload_n C dX4_handOn_26 rfl ?_
          obtain ⟨M27, h27, h⟩ := e_bd h
          refine z_iast C I_20 h27 dX4_handOn_27 ?_
          obtain rfl := Option.some.inj h
          exact z_sub [] rfl hj1
set_option maxRecDepth 100000 in
set_option maxHeartbeats 4000000 in
theorem c_X4_handOn_21 (l : Launch) (g : Gx) {M : MM} {x1 : Int32} {x2 : Int32} {r : MM} (h : f_X4_handOn 21 M x1 x2 = some r) : zMv l yX4_handOn wX4_handOn (rmm 0 0) [.ref (ga g 21), .int x1, .int x2] g M r := by
  refine zMv_of (by decide) rfl (Nat.le_of_ble_eq_true rfl) rfl rfl ?_
  intro x C E
  show zJ g x M 0 [(0, .ref (ga g 21)), (1, .int x1), (2, .int x2)] []
  unfold f_X4_handOn at h
  refine z_iload_n C dX4_handOn_0 rfl ?_
  obtain ⟨j1, h1, h⟩ := e_bd h
  have hj1 : zJ g x j1 28 [] [] := by
    obtain rfl := Option.some.inj h
    exact z_vret C E dX4_handOn_28
  have h := h1
  refine z_if_lt 28 C dX4_handOn_1 (by decide) (fun hc => ?_) (fun hc => ?_)
  · have h := e_t hc h
    obtain rfl := Option.some.inj h
    exact z_sub [] rfl hj1
  · have h := e_f hc h
    refine z_iload_n C dX4_handOn_4 rfl ?_
    refine z_aload_n C dX4_handOn_5 rfl ?_
    refine z_alen (16 : Int32) C I_21 (by decide) dX4_handOn_6 ?_
    refine z_icmp_ge 28 C dX4_handOn_7 (by decide) (fun hc => ?_) (fun hc => ?_)
    · have h := e_t hc h
      obtain rfl := Option.some.inj h
      exact z_sub [] rfl hj1
    · have h := e_f hc h
      refine z_aload_n C dX4_handOn_10 rfl ?_
      refine z_iload_n C dX4_handOn_11 rfl ?_
      obtain ⟨v12, h12, h⟩ := e_bd h
      refine z_iald C I_21 h12 dX4_handOn_12 ?_
      refine z_iconst (-1 : Int32) C dX4_handOn_13 (by decide) ?_
      refine z_icmp_eq 24 C dX4_handOn_14 (by decide) (fun hc => ?_) (fun hc => ?_)
      · have h := e_t hc h
        refine z_aload_n C dX4_handOn_24 rfl ?_
        refine z_iload_n C dX4_handOn_25 rfl ?_
        refine z_iload_n C dX4_handOn_26 rfl ?_
        obtain ⟨M27, h27, h⟩ := e_bd h
        refine z_iast C I_21 h27 dX4_handOn_27 ?_
        obtain rfl := Option.some.inj h
        exact z_sub [] rfl hj1
      · have h := e_f hc h
        refine z_iload_n C dX4_handOn_17 rfl ?_
        refine z_aload_n C dX4_handOn_18 rfl ?_
        refine z_iload_n C dX4_handOn_19 rfl ?_
        obtain ⟨v20, h20, h⟩ := e_bd h
        refine z_iald C I_21 h20 dX4_handOn_20 ?_
        refine z_icmp_ge 28 C dX4_handOn_21 (by decide) (fun hc => ?_) (fun hc => ?_)
        · have h := e_t hc h
          obtain rfl := Option.some.inj h
          exact z_sub [] rfl hj1
        · have h := e_f hc h
          refine z_aload_n C dX4_handOn_24 rfl ?_
          refine z_iload_n C dX4_handOn_25 rfl ?_
          refine z_iload_n C dX4_handOn_26 rfl ?_
          obtain ⟨M27, h27, h⟩ := e_bd h
          refine z_iast C I_21 h27 dX4_handOn_27 ?_
          obtain rfl := Option.some.inj h
          exact z_sub [] rfl hj1
theorem hy_X4_countSteps : yX4_countSteps.cls ≠ "java/lang/invoke/MethodHandle" ∧ yX4_countSteps.cls ≠ "java/lang/invoke/VarHandle" ∧ (parseMethodDescriptor yX4_countSteps.desc).map (fun d => d.parameters.length) = some 3 := by decide +kernel
def wX4_countSteps : List Cond := Cond.code yX4_countSteps cX4_countSteps 4 none :: TB
def f_X4_countSteps_L2 (qa : Nat) : Nat → MM → Int32 → Int32 → Option (MM)
  | 0, _, _, _ => none
  | n + 1, M, x1, x3 =>
    if (16 : Int32) ≤ x3 then
      some M
    else
      (if x3 = x1 then
        some (0 : Int32)
      else
        some (-1 : Int32)
      ).bind fun (j12 : Int32) =>
        (z_sto M qa 16 x3 j12).bind fun (M20 : MM) =>
        f_X4_countSteps_L2 qa n M20 x1 (x3 + (1 : Int32))
def f_X4_countSteps_L36 (qa : Nat) : Nat → MM → Int32 → Option (MM)
  | 0, _, _ => none
  | n + 1, M, x3 =>
    if x3 < 0 then
      some M
    else
      (z_ld M qa 16 x3).bind fun (v42 : Int32) =>
      (if v42 = (-1 : Int32) then
        some M
      else
        (f_X7_fact M x3 (2 : Int32)).bind fun (v51 : Int32) =>
        (z_ld M qa 16 x3).bind fun (v56 : Int32) =>
        (f_X4_handOn qa M v51 (v56 + (1 : Int32))).bind fun (M59 : MM) =>
        (f_X7_fact M59 x3 (3 : Int32)).bind fun (v66 : Int32) =>
        (z_ld M59 qa 16 x3).bind fun (v71 : Int32) =>
        (f_X4_handOn qa M59 v66 (v71 + (1 : Int32))).bind fun (M74 : MM) =>
        some M74
      ).bind fun (j44 : MM) =>
        f_X4_countSteps_L36 qa n j44 (x3 + (-1 : Int32))
def f_X4_countSteps (qa : Nat) (M : MM) (x1 : Int32) : Option MM :=
  (f_X4_countSteps_L2 qa FU M x1 (0 : Int32)).bind fun (w2 : MM) =>
  (f_X4_countSteps_L36 qa FU w2 (if ((16 : Int32) - (1 : Int32)) < x1 then ((16 : Int32) - (1 : Int32)) else x1)).bind fun (w36 : MM) =>
  some w36
set_option maxRecDepth 100000 in
set_option maxHeartbeats 4000000 in
theorem lp_X4_countSteps_2_20 {l : Launch} {g : Gx} {x : Cx} (C : zC g x l RX4 cX4_countSteps wX4_countSteps (rmm 2 43) 4) {r : MM} : ∀ (n : Nat) (M : MM) (x1 x3 : Int32) , f_X4_countSteps_L2 20 n M x1 x3 = some r → zJ g x r 27 [(0, .ref (ga g 1)), (1, .int x1), (2, .ref (ga g 20))] [] → zJ g x M 2 [(0, .ref (ga g 1)), (1, .int x1), (2, .ref (ga g 20)), (3, .int x3)] [] := by
  intro n
  induction n with
  | zero =>
    intro M x1 x3 h hj
    exact absurd h (by simp [f_X4_countSteps_L2])
  | succ n ih =>
    intro M x1 x3 h hj
    rw [f_X4_countSteps_L2] at h
    refine z_iload_n C dX4_countSteps_2 rfl ?_
    refine z_aload_n C dX4_countSteps_3 rfl ?_
    refine z_alen (16 : Int32) C I_20 (by decide) dX4_countSteps_4 ?_
    refine z_icmp_ge 27 C dX4_countSteps_5 (by decide) (fun hc => ?_) (fun hc => ?_)
    · have h := e_t hc h
      obtain rfl := Option.some.inj h
      exact z_sub [0, 1, 2] rfl hj
    · have h := e_f hc h
      refine z_aload_n C dX4_countSteps_8 rfl ?_
      refine z_iload_n C dX4_countSteps_9 rfl ?_
      refine z_iload_n C dX4_countSteps_10 rfl ?_
      refine z_iload_n C dX4_countSteps_11 rfl ?_
      obtain ⟨j12, h12, h⟩ := e_bd h
      have hj12 : zJ g x M 20 [(0, .ref (ga g 1)), (1, .int x1), (2, .ref (ga g 20)), (3, .int x3)] [.int j12, .int x3, .ref (ga g 20)] := by
        obtain ⟨M20, h20, h⟩ := e_bd h
        refine z_iast C I_20 h20 dX4_countSteps_20 ?_
        refine z_iinc (v := (x3 + (1 : Int32))) [(3, .int (x3 + (1 : Int32))), (0, .ref (ga g 1)), (1, .int x1), (2, .ref (ga g 20))] C dX4_countSteps_21 rfl rfl (by decide) rfl ?_
        refine z_goto 2 C dX4_countSteps_24 (by decide) ?_
        refine z_sub [1, 2, 3, 0] rfl ?_
        exact ih _ _ _ h hj
      have h := h12
      refine z_icmp_ne 19 C dX4_countSteps_12 (by decide) (fun hc => ?_) (fun hc => ?_)
      · have h := e_f hc h
        refine z_iconst (-1 : Int32) C dX4_countSteps_19 (by decide) ?_
        obtain rfl := Option.some.inj h
        exact z_sub [0, 1, 2, 3] rfl hj12
      · have h := e_t hc h
        refine z_iconst (0 : Int32) C dX4_countSteps_15 (by decide) ?_
        refine z_goto 20 C dX4_countSteps_16 (by decide) ?_
        obtain rfl := Option.some.inj h
        exact z_sub [0, 1, 2, 3] rfl hj12
set_option maxRecDepth 100000 in
set_option maxHeartbeats 4000000 in
theorem lp_X4_countSteps_36_20 {l : Launch} {g : Gx} {x : Cx} (C : zC g x l RX4 cX4_countSteps wX4_countSteps (rmm 2 43) 4) {r : MM} : ∀ (n : Nat) (M : MM) (x3 : Int32) , f_X4_countSteps_L36 20 n M x3 = some r → zJ g x r 83 [] [] → zJ g x M 36 [(0, .ref (ga g 1)), (2, .ref (ga g 20)), (3, .int x3)] [] := by
  intro n
  induction n with
  | zero =>
    intro M x3 h hj
    exact absurd h (by simp [f_X4_countSteps_L36])
  | succ n ih =>
    intro M x3 h hj
    rw [f_X4_countSteps_L36] at h
    refine z_iload_n C dX4_countSteps_36 rfl ?_
    refine z_if_lt 83 C dX4_countSteps_37 (by decide) (fun hc => ?_) (fun hc => ?_)
    · have h := e_t hc h
      obtain rfl := Option.some.inj h
      exact z_sub [] rfl hj
    · have h := e_f hc h
      refine z_aload_n C dX4_countSteps_40 rfl ?_
      refine z_iload_n C dX4_countSteps_41 rfl ?_
      obtain ⟨v42, h42, h⟩ := e_bd h
      refine z_iald C I_20 h42 dX4_countSteps_42 ?_
      refine z_iconst (-1 : Int32) C dX4_countSteps_43 (by decide) ?_
      obtain ⟨j44, h44, h⟩ := e_bd h
      have hj44 : zJ g x j44 77 [(0, .ref (ga g 1)), (2, .ref (ga g 20)), (3, .int x3)] [] := by
        refine z_iinc (v := (x3 + (-1 : Int32))) [(3, .int (x3 + (-1 : Int32))), (0, .ref (ga g 1)), (2, .ref (ga g 20))] C dX4_countSteps_77 rfl rfl (by decide) rfl ?_
        refine z_goto 36 C dX4_countSteps_80 (by decide) ?_
        refine z_sub [1, 2, 0] rfl ?_
        exact ih _ _ h hj
      have h := h44
      refine z_icmp_eq 77 C dX4_countSteps_44 (by decide) (fun hc => ?_) (fun hc => ?_)
      · have h := e_t hc h
        obtain rfl := Option.some.inj h
        exact z_sub [0, 1, 2] rfl hj44
      · have h := e_f hc h
        refine z_aload_n C dX4_countSteps_47 rfl ?_
        refine z_aload_n C dX4_countSteps_48 rfl ?_
        refine z_iload_n C dX4_countSteps_49 rfl ?_
        refine z_iconst (2 : Int32) C dX4_countSteps_50 (by decide) ?_
        obtain ⟨v51, h51, h⟩ := e_bd h
        refine z_callVi (As := [.int x3, .int (2 : Int32)]) C (c_X7_fact l g h51) rfl O_1 rfl (gcV hsT tw_2_166 cw_X7_fact) rfl rfl rfl hy_X7_fact rfl ⟨Nat.le_of_ble_eq_true rfl, Nat.le_of_ble_eq_true rfl⟩ (Nat.le_of_ble_eq_true rfl) dX4_countSteps_51 ?_
        refine z_aload_n C dX4_countSteps_54 rfl ?_
        refine z_iload_n C dX4_countSteps_55 rfl ?_
        obtain ⟨v56, h56, h⟩ := e_bd h
        refine z_iald C I_20 h56 dX4_countSteps_56 ?_
        refine z_iconst (1 : Int32) C dX4_countSteps_57 (by decide) ?_
        refine z_iadd C dX4_countSteps_58 ?_
        obtain ⟨M59, h59, h⟩ := e_bd h
        refine z_callSv (As := [.ref (ga g 20), .int v51, .int (v56 + (1 : Int32))]) C (c_X4_handOn_20 l g h59) rfl (gcS hsT tw_2_167 cw_X4_handOn) rfl rfl rfl hy_X4_handOn rfl ⟨Nat.le_of_ble_eq_true rfl, Nat.le_of_ble_eq_true rfl⟩ (Nat.le_of_ble_eq_true rfl) dX4_countSteps_59 ?_
        refine z_aload_n C dX4_countSteps_62 rfl ?_
        refine z_aload_n C dX4_countSteps_63 rfl ?_
        refine z_iload_n C dX4_countSteps_64 rfl ?_
        refine z_iconst (3 : Int32) C dX4_countSteps_65 (by decide) ?_
        obtain ⟨v66, h66, h⟩ := e_bd h
        refine z_callVi (As := [.int x3, .int (3 : Int32)]) C (c_X7_fact l g h66) rfl O_1 rfl (gcV hsT tw_2_166 cw_X7_fact) rfl rfl rfl hy_X7_fact rfl ⟨Nat.le_of_ble_eq_true rfl, Nat.le_of_ble_eq_true rfl⟩ (Nat.le_of_ble_eq_true rfl) dX4_countSteps_66 ?_
        refine z_aload_n C dX4_countSteps_69 rfl ?_
        refine z_iload_n C dX4_countSteps_70 rfl ?_
        obtain ⟨v71, h71, h⟩ := e_bd h
        refine z_iald C I_20 h71 dX4_countSteps_71 ?_
        refine z_iconst (1 : Int32) C dX4_countSteps_72 (by decide) ?_
        refine z_iadd C dX4_countSteps_73 ?_
        obtain ⟨M74, h74, h⟩ := e_bd h
        refine z_callSv (As := [.ref (ga g 20), .int v66, .int (v71 + (1 : Int32))]) C (c_X4_handOn_20 l g h74) rfl (gcS hsT tw_2_167 cw_X4_handOn) rfl rfl rfl hy_X4_handOn rfl ⟨Nat.le_of_ble_eq_true rfl, Nat.le_of_ble_eq_true rfl⟩ (Nat.le_of_ble_eq_true rfl) dX4_countSteps_74 ?_
        obtain rfl := Option.some.inj h
        exact z_sub [0, 1, 2] rfl hj44
set_option maxRecDepth 100000 in
set_option maxHeartbeats 4000000 in
theorem c_X4_countSteps_20 (l : Launch) (g : Gx) {M : MM} {x1 : Int32} {r : MM} (h : f_X4_countSteps 20 M x1 = some r) : zMv l yX4_countSteps wX4_countSteps (rmm 2 43) [.ref (ga g 1), .int x1, .ref (ga g 20)] g M r := by
  refine zMv_of (by decide) rfl (Nat.le_of_ble_eq_true rfl) rfl rfl ?_
  intro x C E
  show zJ g x M 0 [(0, .ref (ga g 1)), (1, .int x1), (2, .ref (ga g 20))] []
  unfold f_X4_countSteps at h
  refine z_iconst (0 : Int32) C dX4_countSteps_0 (by decide) ?_
  refine z_istore_n [(3, .int (0 : Int32)), (0, .ref (ga g 1)), (1, .int x1), (2, .ref (ga g 20))] C dX4_countSteps_1 (by decide) rfl ?_
  obtain ⟨w2, h2, h⟩ := e_bd h
  refine z_sub [1, 2, 3, 0] rfl ?_
  refine lp_X4_countSteps_2_20 C _ _ _ _ h2 ?_
  refine z_iload_n C dX4_countSteps_27 rfl ?_
  refine z_aload_n C dX4_countSteps_28 rfl ?_
  refine z_alen (16 : Int32) C I_20 (by decide) dX4_countSteps_29 ?_
  refine z_iconst (1 : Int32) C dX4_countSteps_30 (by decide) ?_
  refine z_isub C dX4_countSteps_31 ?_
  refine z_min C (hsT _ tw_2_165) (hsT _ tw_2_71) (hsT _ tw_1_10) (hsT _ tw_2_72) (by decide) (Nat.le_of_ble_eq_true rfl) dX4_countSteps_32 ?_
  refine z_istore_n [(3, .int (if ((16 : Int32) - (1 : Int32)) < x1 then ((16 : Int32) - (1 : Int32)) else x1)), (0, .ref (ga g 1)), (1, .int x1), (2, .ref (ga g 20))] C dX4_countSteps_35 (by decide) rfl ?_
  obtain ⟨w36, h36, h⟩ := e_bd h
  refine z_sub [1, 3, 0] rfl ?_
  refine lp_X4_countSteps_36_20 C _ _ _ h36 ?_
  obtain rfl := Option.some.inj h
  exact z_vret C E dX4_countSteps_83
set_option maxRecDepth 100000 in
set_option maxHeartbeats 4000000 in
theorem lp_X4_countSteps_2_21 {l : Launch} {g : Gx} {x : Cx} (C : zC g x l RX4 cX4_countSteps wX4_countSteps (rmm 2 43) 4) {r : MM} : ∀ (n : Nat) (M : MM) (x1 x3 : Int32) , f_X4_countSteps_L2 21 n M x1 x3 = some r → zJ g x r 27 [(0, .ref (ga g 1)), (1, .int x1), (2, .ref (ga g 21))] [] → zJ g x M 2 [(0, .ref (ga g 1)), (1, .int x1), (2, .ref (ga g 21)), (3, .int x3)] [] := by
  intro n
  induction n with
  | zero =>
    intro M x1 x3 h hj
    exact absurd h (by simp [f_X4_countSteps_L2])
  | succ n ih =>
    intro M x1 x3 h hj
    rw [f_X4_countSteps_L2] at h
    refine z_iload_n C dX4_countSteps_2 rfl ?_
    refine z_aload_n C dX4_countSteps_3 rfl ?_
    refine z_alen (16 : Int32) C I_21 (by decide) dX4_countSteps_4 ?_
    refine z_icmp_ge 27 C dX4_countSteps_5 (by decide) (fun hc => ?_) (fun hc => ?_)
    · have h := e_t hc h
      obtain rfl := Option.some.inj h
      exact z_sub [0, 1, 2] rfl hj
    · have h := e_f hc h
      refine z_aload_n C dX4_countSteps_8 rfl ?_
      refine z_iload_n C dX4_countSteps_9 rfl ?_
      refine z_iload_n C dX4_countSteps_10 rfl ?_
      refine z_iload_n C dX4_countSteps_11 rfl ?_
      obtain ⟨j12, h12, h⟩ := e_bd h
      have hj12 : zJ g x M 20 [(0, .ref (ga g 1)), (1, .int x1), (2, .ref (ga g 21)), (3, .int x3)] [.int j12, .int x3, .ref (ga g 21)] := by
        obtain ⟨M20, h20, h⟩ := e_bd h
        refine z_iast C I_21 h20 dX4_countSteps_20 ?_
        refine z_iinc (v := (x3 + (1 : Int32))) [(3, .int (x3 + (1 : Int32))), (0, .ref (ga g 1)), (1, .int x1), (2, .ref (ga g 21))] C dX4_countSteps_21 rfl rfl (by decide) rfl ?_
        refine z_goto 2 C dX4_countSteps_24 (by decide) ?_
        refine z_sub [1, 2, 3, 0] rfl ?_
        exact ih _ _ _ h hj
      have h := h12
      refine z_icmp_ne 19 C dX4_countSteps_12 (by decide) (fun hc => ?_) (fun hc => ?_)
      · have h := e_f hc h
        refine z_iconst (-1 : Int32) C dX4_countSteps_19 (by decide) ?_
        obtain rfl := Option.some.inj h
        exact z_sub [0, 1, 2, 3] rfl hj12
      · have h := e_t hc h
        refine z_iconst (0 : Int32) C dX4_countSteps_15 (by decide) ?_
        refine z_goto 20 C dX4_countSteps_16 (by decide) ?_
        obtain rfl := Option.some.inj h
        exact z_sub [0, 1, 2, 3] rfl hj12
set_option maxRecDepth 100000 in
set_option maxHeartbeats 4000000 in
theorem lp_X4_countSteps_36_21 {l : Launch} {g : Gx} {x : Cx} (C : zC g x l RX4 cX4_countSteps wX4_countSteps (rmm 2 43) 4) {r : MM} : ∀ (n : Nat) (M : MM) (x3 : Int32) , f_X4_countSteps_L36 21 n M x3 = some r → zJ g x r 83 [] [] → zJ g x M 36 [(0, .ref (ga g 1)), (2, .ref (ga g 21)), (3, .int x3)] [] := by
  intro n
  induction n with
  | zero =>
    intro M x3 h hj
    exact absurd h (by simp [f_X4_countSteps_L36])
  | succ n ih =>
    intro M x3 h hj
    rw [f_X4_countSteps_L36] at h
    refine z_iload_n C dX4_countSteps_36 rfl ?_
    refine z_if_lt 83 C dX4_countSteps_37 (by decide) (fun hc => ?_) (fun hc => ?_)
    · have h := e_t hc h
      obtain rfl := Option.some.inj h
      exact z_sub [] rfl hj
    · have h := e_f hc h
      refine z_aload_n C dX4_countSteps_40 rfl ?_
      refine z_iload_n C dX4_countSteps_41 rfl ?_
      obtain ⟨v42, h42, h⟩ := e_bd h
      refine z_iald C I_21 h42 dX4_countSteps_42 ?_
      refine z_iconst (-1 : Int32) C dX4_countSteps_43 (by decide) ?_
      obtain ⟨j44, h44, h⟩ := e_bd h
      have hj44 : zJ g x j44 77 [(0, .ref (ga g 1)), (2, .ref (ga g 21)), (3, .int x3)] [] := by
        refine z_iinc (v := (x3 + (-1 : Int32))) [(3, .int (x3 + (-1 : Int32))), (0, .ref (ga g 1)), (2, .ref (ga g 21))] C dX4_countSteps_77 rfl rfl (by decide) rfl ?_
        refine z_goto 36 C dX4_countSteps_80 (by decide) ?_
        refine z_sub [1, 2, 0] rfl ?_
        exact ih _ _ h hj
      have h := h44
      refine z_icmp_eq 77 C dX4_countSteps_44 (by decide) (fun hc => ?_) (fun hc => ?_)
      · have h := e_t hc h
        obtain rfl := Option.some.inj h
        exact z_sub [0, 1, 2] rfl hj44
      · have h := e_f hc h
        refine z_aload_n C dX4_countSteps_47 rfl ?_
        refine z_aload_n C dX4_countSteps_48 rfl ?_
        refine z_iload_n C dX4_countSteps_49 rfl ?_
        refine z_iconst (2 : Int32) C dX4_countSteps_50 (by decide) ?_
        obtain ⟨v51, h51, h⟩ := e_bd h
        refine z_callVi (As := [.int x3, .int (2 : Int32)]) C (c_X7_fact l g h51) rfl O_1 rfl (gcV hsT tw_2_166 cw_X7_fact) rfl rfl rfl hy_X7_fact rfl ⟨Nat.le_of_ble_eq_true rfl, Nat.le_of_ble_eq_true rfl⟩ (Nat.le_of_ble_eq_true rfl) dX4_countSteps_51 ?_
        refine z_aload_n C dX4_countSteps_54 rfl ?_
        refine z_iload_n C dX4_countSteps_55 rfl ?_
        obtain ⟨v56, h56, h⟩ := e_bd h
        refine z_iald C I_21 h56 dX4_countSteps_56 ?_
        refine z_iconst (1 : Int32) C dX4_countSteps_57 (by decide) ?_
        refine z_iadd C dX4_countSteps_58 ?_
        obtain ⟨M59, h59, h⟩ := e_bd h
        refine z_callSv (As := [.ref (ga g 21), .int v51, .int (v56 + (1 : Int32))]) C (c_X4_handOn_21 l g h59) rfl (gcS hsT tw_2_167 cw_X4_handOn) rfl rfl rfl hy_X4_handOn rfl ⟨Nat.le_of_ble_eq_true rfl, Nat.le_of_ble_eq_true rfl⟩ (Nat.le_of_ble_eq_true rfl) dX4_countSteps_59 ?_
        refine z_aload_n C dX4_countSteps_62 rfl ?_
        refine z_aload_n C dX4_countSteps_63 rfl ?_
        refine z_iload_n C dX4_countSteps_64 rfl ?_
        refine z_iconst (3 : Int32) C dX4_countSteps_65 (by decide) ?_
        obtain ⟨v66, h66, h⟩ := e_bd h
        refine z_callVi (As := [.int x3, .int (3 : Int32)]) C (c_X7_fact l g h66) rfl O_1 rfl (gcV hsT tw_2_166 cw_X7_fact) rfl rfl rfl hy_X7_fact rfl ⟨Nat.le_of_ble_eq_true rfl, Nat.le_of_ble_eq_true rfl⟩ (Nat.le_of_ble_eq_true rfl) dX4_countSteps_66 ?_
        refine z_aload_n C dX4_countSteps_69 rfl ?_
        refine z_iload_n C dX4_countSteps_70 rfl ?_
        obtain ⟨v71, h71, h⟩ := e_bd h
        refine z_iald C I_21 h71 dX4_countSteps_71 ?_
        refine z_iconst (1 : Int32) C dX4_countSteps_72 (by decide) ?_
        refine z_iadd C dX4_countSteps_73 ?_
        obtain ⟨M74, h74, h⟩ := e_bd h
        refine z_callSv (As := [.ref (ga g 21), .int v66, .int (v71 + (1 : Int32))]) C (c_X4_handOn_21 l g h74) rfl (gcS hsT tw_2_167 cw_X4_handOn) rfl rfl rfl hy_X4_handOn rfl ⟨Nat.le_of_ble_eq_true rfl, Nat.le_of_ble_eq_true rfl⟩ (Nat.le_of_ble_eq_true rfl) dX4_countSteps_74 ?_
        obtain rfl := Option.some.inj h
        exact z_sub [0, 1, 2] rfl hj44
set_option maxRecDepth 100000 in
set_option maxHeartbeats 4000000 in
theorem c_X4_countSteps_21 (l : Launch) (g : Gx) {M : MM} {x1 : Int32} {r : MM} (h : f_X4_countSteps 21 M x1 = some r) : zMv l yX4_countSteps wX4_countSteps (rmm 2 43) [.ref (ga g 1), .int x1, .ref (ga g 21)] g M r := by
  refine zMv_of (by decide) rfl (Nat.le_of_ble_eq_true rfl) rfl rfl ?_
  intro x C E
  show zJ g x M 0 [(0, .ref (ga g 1)), (1, .int x1), (2, .ref (ga g 21))] []
  unfold f_X4_countSteps at h
  refine z_iconst (0 : Int32) C dX4_countSteps_0 (by decide) ?_
  refine z_istore_n [(3, .int (0 : Int32)), (0, .ref (ga g 1)), (1, .int x1), (2, .ref (ga g 21))] C dX4_countSteps_1 (by decide) rfl ?_
  obtain ⟨w2, h2, h⟩ := e_bd h
  refine z_sub [1, 2, 3, 0] rfl ?_
  refine lp_X4_countSteps_2_21 C _ _ _ _ h2 ?_
  refine z_iload_n C dX4_countSteps_27 rfl ?_
  refine z_aload_n C dX4_countSteps_28 rfl ?_
  refine z_alen (16 : Int32) C I_21 (by decide) dX4_countSteps_29 ?_
  refine z_iconst (1 : Int32) C dX4_countSteps_30 (by decide) ?_
  refine z_isub C dX4_countSteps_31 ?_
  refine z_min C (hsT _ tw_2_165) (hsT _ tw_2_71) (hsT _ tw_1_10) (hsT _ tw_2_72) (by decide) (Nat.le_of_ble_eq_true rfl) dX4_countSteps_32 ?_
  refine z_istore_n [(3, .int (if ((16 : Int32) - (1 : Int32)) < x1 then ((16 : Int32) - (1 : Int32)) else x1)), (0, .ref (ga g 1)), (1, .int x1), (2, .ref (ga g 21))] C dX4_countSteps_35 (by decide) rfl ?_
  obtain ⟨w36, h36, h⟩ := e_bd h
  refine z_sub [1, 3, 0] rfl ?_
  refine lp_X4_countSteps_36_21 C _ _ _ h36 ?_
  obtain rfl := Option.some.inj h
  exact z_vret C E dX4_countSteps_83
theorem hy_X4_seek : yX4_seek.cls = RX4 ∧ yX4_seek.cls ≠ "java/lang/invoke/MethodHandle" ∧ yX4_seek.cls ≠ "java/lang/invoke/VarHandle" ∧ (parseMethodDescriptor yX4_seek.desc).map (fun d => d.parameters.length) = some 3 := by decide +kernel
def wX4_seek : List Cond := Cond.code yX4_seek cX4_seek 6 none :: TB
def f_X4_seek_L31 : Nat → MM → Int32 → Option (MM)
  | 0, _, _ => none
  | n + 1, M, x4 =>
    (f_X7_people M ).bind fun (v34 : Int32) =>
    if v34 ≤ x4 then
      some M
    else
      if (16 : Int32) ≤ x4 then
        some M
      else
        (z_ld M 20 16 x4).bind fun (v53 : Int32) =>
        (z_ld M 21 16 x4).bind fun (v60 : Int32) =>
        (z_ld M 20 16 x4).bind fun (v70 : Int32) =>
        (if v70 = (-1 : Int32) then
          some M
        else
          (z_ld M 21 16 x4).bind fun (v81 : Int32) =>
          if v81 = (-1 : Int32) then
            some M
          else
            if (M 5 2) = (-1 : Int32) then
              (z_stf M 5 2 (v53 + v60)).bind fun (M106 : MM) =>
              (z_stf M106 5 3 x4).bind fun (M112 : MM) =>
              some M112
            else
              if (M 5 2) < (v53 + v60) then
                some M
              else
                (z_stf M 5 2 (v53 + v60)).bind fun (M106 : MM) =>
                (z_stf M106 5 3 x4).bind fun (M112 : MM) =>
                some M112
        ).bind fun (j72 : MM) =>
          f_X4_seek_L31 n j72 (x4 + (1 : Int32))
def f_X4_seek (M : MM) (x2 : Int32) (x3 : Int32) : Option MM :=
  (f_X4_countSteps 20 M x2).bind fun (M6 : MM) =>
  (f_X4_countSteps 21 M6 x3).bind fun (M15 : MM) =>
  (z_stf M15 5 2 (-1 : Int32)).bind fun (M20 : MM) =>
  (z_stf M20 5 3 (-1 : Int32)).bind fun (M25 : MM) =>
  (f_X4_seek_L31 FU M25 (0 : Int32)).bind fun (w31 : MM) =>
  some w31
set_option maxRecDepth 100000 in
set_option maxHeartbeats 4000000 in
theorem lp_X4_seek_31 {l : Launch} {g : Gx} {x : Cx} (C : zC g x l RX4 cX4_seek wX4_seek (rmm 3 66) 6) {r : MM} : ∀ (n : Nat) (M : MM) (x4 : Int32) , f_X4_seek_L31 n M x4 = some r → zJ g x r 121 [] [] → zJ g x M 31 [(0, .ref (ga g 5)), (1, .ref (ga g 1)), (4, .int x4)] [] := by
  intro n
  induction n with
  | zero =>
    intro M x4 h hj
    exact absurd h (by simp [f_X4_seek_L31])
  | succ n ih =>
    intro M x4 h hj
    rw [f_X4_seek_L31] at h
    refine z_iload C dX4_seek_31 rfl ?_
    refine z_aload_n C dX4_seek_33 rfl ?_
    obtain ⟨v34, h34, h⟩ := e_bd h
    refine z_callVi (As := []) C (c_X7_people l g h34) rfl O_1 rfl (gcV hsT tw_2_170 cw_X7_people) rfl rfl rfl hy_X7_people rfl ⟨Nat.le_of_ble_eq_true rfl, Nat.le_of_ble_eq_true rfl⟩ (Nat.le_of_ble_eq_true rfl) dX4_seek_34 ?_
    refine z_icmp_ge 121 C dX4_seek_37 (by decide) (fun hc => ?_) (fun hc => ?_)
    · have h := e_t hc h
      obtain rfl := Option.some.inj h
      exact z_sub [] rfl hj
    · have h := e_f hc h
      refine z_iload C dX4_seek_40 rfl ?_
      refine z_bipush (16 : Int32) C dX4_seek_42 (by decide) ?_
      refine z_icmp_ge 121 C dX4_seek_44 (by decide) (fun hc => ?_) (fun hc => ?_)
      · have h := e_t hc h
        obtain rfl := Option.some.inj h
        exact z_sub [] rfl hj
      · have h := e_f hc h
        refine z_aload_n C dX4_seek_47 rfl ?_
        refine z_get C O_5 0 rfl (fun _ h9 => hsT _ (inX4 _ h9)) (by decide) (hsT _ tw_1_106) dX4_seek_48 rfl ?_
        refine z_iload C dX4_seek_51 rfl ?_
        obtain ⟨v53, h53, h⟩ := e_bd h
        refine z_iald C I_20 h53 dX4_seek_53 ?_
        refine z_aload_n C dX4_seek_54 rfl ?_
        refine z_get C O_5 1 rfl (fun _ h9 => hsT _ (inX4 _ h9)) (by decide) (hsT _ tw_1_107) dX4_seek_55 rfl ?_
        refine z_iload C dX4_seek_58 rfl ?_
        obtain ⟨v60, h60, h⟩ := e_bd h
        refine z_iald C I_21 h60 dX4_seek_60 ?_
        refine z_iadd C dX4_seek_61 ?_
        refine z_istore [(5, .int (v53 + v60)), (0, .ref (ga g 5)), (1, .ref (ga g 1)), (4, .int x4)] C dX4_seek_62 (by decide) rfl ?_
        refine z_aload_n C dX4_seek_64 rfl ?_
        refine z_get C O_5 0 rfl (fun _ h9 => hsT _ (inX4 _ h9)) (by decide) (hsT _ tw_1_106) dX4_seek_65 rfl ?_
        refine z_iload C dX4_seek_68 rfl ?_
        obtain ⟨v70, h70, h⟩ := e_bd h
        refine z_iald C I_20 h70 dX4_seek_70 ?_
        refine z_iconst (-1 : Int32) C dX4_seek_71 (by decide) ?_
        obtain ⟨j72, h72, h⟩ := e_bd h
        have hj72 : zJ g x j72 115 [(0, .ref (ga g 5)), (1, .ref (ga g 1)), (4, .int x4)] [] := by
          refine z_iinc (v := (x4 + (1 : Int32))) [(4, .int (x4 + (1 : Int32))), (0, .ref (ga g 5)), (1, .ref (ga g 1))] C dX4_seek_115 rfl rfl (by decide) rfl ?_
          refine z_goto 31 C dX4_seek_118 (by decide) ?_
          refine z_sub [1, 2, 0] rfl ?_
          exact ih _ _ h hj
        have h := h72
        refine z_icmp_eq 115 C dX4_seek_72 (by decide) (fun hc => ?_) (fun hc => ?_)
        · have h := e_t hc h
          obtain rfl := Option.some.inj h
          exact z_sub [1, 2, 3] rfl hj72
        · have h := e_f hc h
          refine z_aload_n C dX4_seek_75 rfl ?_
          refine z_get C O_5 1 rfl (fun _ h9 => hsT _ (inX4 _ h9)) (by decide) (hsT _ tw_1_107) dX4_seek_76 rfl ?_
          refine z_iload C dX4_seek_79 rfl ?_
          obtain ⟨v81, h81, h⟩ := e_bd h
          refine z_iald C I_21 h81 dX4_seek_81 ?_
          refine z_iconst (-1 : Int32) C dX4_seek_82 (by decide) ?_
          refine z_icmp_eq 115 C dX4_seek_83 (by decide) (fun hc => ?_) (fun hc => ?_)
          · have h := e_t hc h
            obtain rfl := Option.some.inj h
            exact z_sub [1, 2, 3] rfl hj72
          · have h := e_f hc h
            refine z_aload_n C dX4_seek_86 rfl ?_
            refine z_get C O_5 2 rfl (fun _ h9 => hsT _ (inX4 _ h9)) (by decide) (hsT _ tw_1_108) dX4_seek_87 rfl ?_
            refine z_iconst (-1 : Int32) C dX4_seek_90 (by decide) ?_
            refine z_icmp_eq 103 C dX4_seek_91 (by decide) (fun hc => ?_) (fun hc => ?_)
            · have h := e_t hc h
              refine z_aload_n C dX4_seek_103 rfl ?_
              refine z_iload C dX4_seek_104 rfl ?_
              obtain ⟨M106, h106, h⟩ := e_bd h
              refine z_puti tyX4 C O_5 2 O_5_2 rfl (fun _ h9 => hsT _ (inX4 _ h9)) tyX4_ok nmX4 (by decide) rfl (Nat.le_of_ble_eq_true rfl) (hsT _ tw_1_108) dX4_seek_106 rfl h106 ?_
              refine z_aload_n C dX4_seek_109 rfl ?_
              refine z_iload C dX4_seek_110 rfl ?_
              obtain ⟨M112, h112, h⟩ := e_bd h
              refine z_puti tyX4 C O_5 3 O_5_3 rfl (fun _ h9 => hsT _ (inX4 _ h9)) tyX4_ok nmX4 (by decide) rfl (Nat.le_of_ble_eq_true rfl) (hsT _ tw_1_110) dX4_seek_112 rfl h112 ?_
              obtain rfl := Option.some.inj h
              exact z_sub [1, 2, 3] rfl hj72
            · have h := e_f hc h
              refine z_iload C dX4_seek_94 rfl ?_
              refine z_aload_n C dX4_seek_96 rfl ?_
              refine z_get C O_5 2 rfl (fun _ h9 => hsT _ (inX4 _ h9)) (by decide) (hsT _ tw_1_108) dX4_seek_97 rfl ?_
              refine z_icmp_gt 115 C dX4_seek_100 (by decide) (fun hc => ?_) (fun hc => ?_)
              · have h := e_t hc h
                obtain rfl := Option.some.inj h
                exact z_sub [1, 2, 3] rfl hj72
              · have h := e_f hc h
                refine z_aload_n C dX4_seek_103 rfl ?_
                refine z_iload C dX4_seek_104 rfl ?_
                obtain ⟨M106, h106, h⟩ := e_bd h
                refine z_puti tyX4 C O_5 2 O_5_2 rfl (fun _ h9 => hsT _ (inX4 _ h9)) tyX4_ok nmX4 (by decide) rfl (Nat.le_of_ble_eq_true rfl) (hsT _ tw_1_108) dX4_seek_106 rfl h106 ?_
                refine z_aload_n C dX4_seek_109 rfl ?_
                refine z_iload C dX4_seek_110 rfl ?_
                obtain ⟨M112, h112, h⟩ := e_bd h
                refine z_puti tyX4 C O_5 3 O_5_3 rfl (fun _ h9 => hsT _ (inX4 _ h9)) tyX4_ok nmX4 (by decide) rfl (Nat.le_of_ble_eq_true rfl) (hsT _ tw_1_110) dX4_seek_112 rfl h112 ?_
                obtain rfl := Option.some.inj h
                exact z_sub [1, 2, 3] rfl hj72
set_option maxRecDepth 100000 in
set_option maxHeartbeats 4000000 in
theorem c_X4_seek (l : Launch) (g : Gx) {M : MM} {x2 : Int32} {x3 : Int32} {r : MM} (h : f_X4_seek M x2 x3 = some r) : zMv l yX4_seek wX4_seek (rmm 3 66) [.ref (ga g 5), .ref (ga g 1), .int x2, .int x3] g M r := by
  refine zMv_of (by decide) rfl (Nat.le_of_ble_eq_true rfl) rfl rfl ?_
  intro x C E
  show zJ g x M 0 [(0, .ref (ga g 5)), (1, .ref (ga g 1)), (2, .int x2), (3, .int x3)] []
  unfold f_X4_seek at h
  refine z_aload_n C dX4_seek_0 rfl ?_
  refine z_iload_n C dX4_seek_1 rfl ?_
  refine z_aload_n C dX4_seek_2 rfl ?_
  refine z_get C O_5 0 rfl (fun _ h9 => hsT _ (inX4 _ h9)) (by decide) (hsT _ tw_1_106) dX4_seek_3 rfl ?_
  obtain ⟨M6, h6, h⟩ := e_bd h
  refine z_callSv (As := [.ref (ga g 1), .int x2, .ref (ga g 20)]) C (c_X4_countSteps_20 l g h6) rfl (gcS hsT tw_2_162 cw_X4_countSteps) rfl rfl rfl hy_X4_countSteps rfl ⟨Nat.le_of_ble_eq_true rfl, Nat.le_of_ble_eq_true rfl⟩ (Nat.le_of_ble_eq_true rfl) dX4_seek_6 ?_
  refine z_aload_n C dX4_seek_9 rfl ?_
  refine z_iload_n C dX4_seek_10 rfl ?_
  refine z_aload_n C dX4_seek_11 rfl ?_
  refine z_get C O_5 1 rfl (fun _ h9 => hsT _ (inX4 _ h9)) (by decide) (hsT _ tw_1_107) dX4_seek_12 rfl ?_
  obtain ⟨M15, h15, h⟩ := e_bd h
  refine z_callSv (As := [.ref (ga g 1), .int x3, .ref (ga g 21)]) C (c_X4_countSteps_21 l g h15) rfl (gcS hsT tw_2_162 cw_X4_countSteps) rfl rfl rfl hy_X4_countSteps rfl ⟨Nat.le_of_ble_eq_true rfl, Nat.le_of_ble_eq_true rfl⟩ (Nat.le_of_ble_eq_true rfl) dX4_seek_15 ?_
  refine z_aload_n C dX4_seek_18 rfl ?_
  refine z_iconst (-1 : Int32) C dX4_seek_19 (by decide) ?_
  obtain ⟨M20, h20, h⟩ := e_bd h
  refine z_puti tyX4 C O_5 2 O_5_2 rfl (fun _ h9 => hsT _ (inX4 _ h9)) tyX4_ok nmX4 (by decide) rfl (Nat.le_of_ble_eq_true rfl) (hsT _ tw_1_108) dX4_seek_20 rfl h20 ?_
  refine z_aload_n C dX4_seek_23 rfl ?_
  refine z_iconst (-1 : Int32) C dX4_seek_24 (by decide) ?_
  obtain ⟨M25, h25, h⟩ := e_bd h
  refine z_puti tyX4 C O_5 3 O_5_3 rfl (fun _ h9 => hsT _ (inX4 _ h9)) tyX4_ok nmX4 (by decide) rfl (Nat.le_of_ble_eq_true rfl) (hsT _ tw_1_110) dX4_seek_25 rfl h25 ?_
  refine z_iconst (0 : Int32) C dX4_seek_28 (by decide) ?_
  refine z_istore [(4, .int (0 : Int32)), (0, .ref (ga g 5)), (1, .ref (ga g 1)), (2, .int x2), (3, .int x3)] C dX4_seek_29 (by decide) rfl ?_
  obtain ⟨w31, h31, h⟩ := e_bd h
  refine z_sub [1, 2, 0] rfl ?_
  refine lp_X4_seek_31 C _ _ _ h31 ?_
  obtain rfl := Option.some.inj h
  exact z_vret C E dX4_seek_121
