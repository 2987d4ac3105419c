def FU : Nat := 100000
theorem ne_ti {u k : Int32} {z : Int} (hk : k.toInt = z) (h : ¬ u = k) : u.toInt ≠ z := fun e => h (Int32.toInt_inj.mp (e.trans hk.symm))
theorem sw_out12 {u : Int32} (h0 : ¬ u = (0 : Int32)) (h1 : ¬ u = (1 : Int32)) (h2 : ¬ u = (2 : Int32)) (h3 : ¬ u = (3 : Int32)) (h4 : ¬ u = (4 : Int32)) (h5 : ¬ u = (5 : Int32)) (h6 : ¬ u = (6 : Int32)) (h7 : ¬ u = (7 : Int32)) (h8 : ¬ u = (8 : Int32)) (h9 : ¬ u = (9 : Int32)) (h10 : ¬ u = (10 : Int32)) (h11 : ¬ u = (11 : Int32)) : u.toInt < 0 ∨ 11 < u.toInt := by
  have a0 := ne_ti (z := 0) (by decide) h0
  have a1 := ne_ti (z := 1) (by decide) h1
  have a2 := ne_ti (z := 2) (by decide) h2
  have a3 := ne_ti (z := 3) (by decide) h3
  have a4 := ne_ti (z := 4) (by decide) h4
  have a5 := ne_ti (z := 5) (by decide) h5
  have a6 := ne_ti (z := 6) (by decide) h6
  have a7 := ne_ti (z := 7) (by decide) h7
  have a8 := ne_ti (z := 8) (by decide) h8
  have a9 := ne_ti (z := 9) (by decide) h9
  have a10 := ne_ti (z := 10) (by decide) h10
  have a11 := ne_ti (z := 11) (by decide) h11
  omega
theorem sw_out16 {u : Int32} (h0 : ¬ u = (0 : Int32)) (h1 : ¬ u = (1 : Int32)) (h2 : ¬ u = (2 : Int32)) (h3 : ¬ u = (3 : Int32)) (h4 : ¬ u = (4 : Int32)) (h5 : ¬ u = (5 : Int32)) (h6 : ¬ u = (6 : Int32)) (h7 : ¬ u = (7 : Int32)) (h8 : ¬ u = (8 : Int32)) (h9 : ¬ u = (9 : Int32)) (h10 : ¬ u = (10 : Int32)) (h11 : ¬ u = (11 : Int32)) (h12 : ¬ u = (12 : Int32)) (h13 : ¬ u = (13 : Int32)) (h14 : ¬ u = (14 : Int32)) (h15 : ¬ u = (15 : Int32)) : u.toInt < 0 ∨ 15 < u.toInt := by
  have a0 := ne_ti (z := 0) (by decide) h0
  have a1 := ne_ti (z := 1) (by decide) h1
  have a2 := ne_ti (z := 2) (by decide) h2
  have a3 := ne_ti (z := 3) (by decide) h3
  have a4 := ne_ti (z := 4) (by decide) h4
  have a5 := ne_ti (z := 5) (by decide) h5
  have a6 := ne_ti (z := 6) (by decide) h6
  have a7 := ne_ti (z := 7) (by decide) h7
  have a8 := ne_ti (z := 8) (by decide) h8
  have a9 := ne_ti (z := 9) (by decide) h9
  have a10 := ne_ti (z := 10) (by decide) h10
  have a11 := ne_ti (z := 11) (by decide) h11
  have a12 := ne_ti (z := 12) (by decide) h12
  have a13 := ne_ti (z := 13) (by decide) h13
  have a14 := ne_ti (z := 14) (by decide) h14
  have a15 := ne_ti (z := 15) (by decide) h15
  omega
theorem sw_out20 {u : Int32} (h0 : ¬ u = (0 : Int32)) (h1 : ¬ u = (1 : Int32)) (h2 : ¬ u = (2 : Int32)) (h3 : ¬ u = (3 : Int32)) (h4 : ¬ u = (4 : Int32)) (h5 : ¬ u = (5 : Int32)) (h6 : ¬ u = (6 : Int32)) (h7 : ¬ u = (7 : Int32)) (h8 : ¬ u = (8 : Int32)) (h9 : ¬ u = (9 : Int32)) (h10 : ¬ u = (10 : Int32)) (h11 : ¬ u = (11 : Int32)) (h12 : ¬ u = (12 : Int32)) (h13 : ¬ u = (13 : Int32)) (h14 : ¬ u = (14 : Int32)) (h15 : ¬ u = (15 : Int32)) (h16 : ¬ u = (16 : Int32)) (h17 : ¬ u = (17 : Int32)) (h18 : ¬ u = (18 : Int32)) (h19 : ¬ u = (19 : Int32)) : u.toInt < 0 ∨ 19 < u.toInt := by
  have a0 := ne_ti (z := 0) (by decide) h0
  have a1 := ne_ti (z := 1) (by decide) h1
  have a2 := ne_ti (z := 2) (by decide) h2
  have a3 := ne_ti (z := 3) (by decide) h3
  have a4 := ne_ti (z := 4) (by decide) h4
  have a5 := ne_ti (z := 5) (by decide) h5
  have a6 := ne_ti (z := 6) (by decide) h6
  have a7 := ne_ti (z := 7) (by decide) h7
  have a8 := ne_ti (z := 8) (by decide) h8
  have a9 := ne_ti (z := 9) (by decide) h9
  have a10 := ne_ti (z := 10) (by decide) h10
  have a11 := ne_ti (z := 11) (by decide) h11
  have a12 := ne_ti (z := 12) (by decide) h12
  have a13 := ne_ti (z := 13) (by decide) h13
  have a14 := ne_ti (z := 14) (by decide) h14
  have a15 := ne_ti (z := 15) (by decide) h15
  have a16 := ne_ti (z := 16) (by decide) h16
  have a17 := ne_ti (z := 17) (by decide) h17
  have a18 := ne_ti (z := 18) (by decide) h18
  have a19 := ne_ti (z := 19) (by decide) h19
  omega
theorem hy_X7_people : yX7_people.cls = RX7 ∧ yX7_people.cls ≠ "java/lang/invoke/MethodHandle" ∧ yX7_people.cls ≠ "java/lang/invoke/VarHandle" ∧ (parseMethodDescriptor yX7_people.desc).map (fun d => d.parameters.length) = some 0 := by decide +kernel
def wX7_people : List Cond := Cond.code yX7_people cX7_people 1 (some .int) :: TB
def f_X7_people (M : MM)  : Option Int32 :=
  (z_ld M 10 141 (0 : Int32)).bind fun (v5 : Int32) =>
  some v5
set_option maxRecDepth 100000 in
set_option maxHeartbeats 4000000 in
theorem c_X7_people (l : Launch) (g : Gx) {M : MM}  {r : Int32} (h : f_X7_people M  = some r) : zMi l yX7_people wX7_people (rmm 0 0) [.ref (ga g 1)] g M r M := by
  refine zMi_of .int (by decide) rfl (Nat.le_of_ble_eq_true rfl) rfl rfl ?_
  intro x C E
  show zJ g x M 0 [(0, .ref (ga g 1))] []
  unfold f_X7_people at h
  refine z_aload_n C dX7_people_0 rfl ?_
  refine z_get C O_1 0 rfl (fun _ h9 => hsT _ (inX7 _ h9)) (by decide) (hsT _ tw_1_29) dX7_people_1 rfl ?_
  refine z_iconst (0 : Int32) C dX7_people_4 (by decide) ?_
  obtain ⟨v5, h5, h⟩ := e_bd h
  refine z_iald C I_10 h5 dX7_people_5 ?_
  obtain rfl := Option.some.inj h
  exact z_iret C E dX7_people_6
theorem hy_X7_has : yX7_has.cls = RX7 ∧ yX7_has.cls ≠ "java/lang/invoke/MethodHandle" ∧ yX7_has.cls ≠ "java/lang/invoke/VarHandle" ∧ (parseMethodDescriptor yX7_has.desc).map (fun d => d.parameters.length) = some 1 := by decide +kernel
def wX7_has : List Cond := Cond.code yX7_has cX7_has 2 (some .boolean) :: TB
def f_X7_has (M : MM) (x1 : Int32) : Option Int32 :=
  (if x1 < 0 then
    some (0 : Int32)
  else
    if (16 : Int32) ≤ x1 then
      some (0 : Int32)
    else
      (z_ld M 10 141 (0 : Int32)).bind fun (v16 : Int32) =>
      if v16 ≤ x1 then
        some (0 : Int32)
      else
        some (1 : Int32)
  ).bind fun (j1 : Int32) =>
    z_rzp j1
set_option maxRecDepth 100000 in
set_option maxHeartbeats 4000000 in
theorem c_X7_has (l : Launch) (g : Gx) {M : MM} {x1 : Int32} {r : Int32} (h : f_X7_has M x1 = some r) : zMi l yX7_has wX7_has (rmm 0 0) [.ref (ga g 1), .int x1] g M r M := by
  refine zMi_of .boolean (by decide) rfl (Nat.le_of_ble_eq_true rfl) rfl rfl ?_
  intro x C E
  show zJ g x M 0 [(0, .ref (ga g 1)), (1, .int x1)] []
  unfold f_X7_has at h
  refine z_iload_n C dX7_has_0 rfl ?_
  obtain ⟨j1, h1, h⟩ := e_bd h
  have hj1 : zJ g x M 25 [] [.int j1] := by
    obtain ⟨hz, rfl⟩ := e_rzp h
    exact z_zret C E hz dX7_has_25
  have h := h1
  refine z_if_lt 24 C dX7_has_1 (by decide) (fun hc => ?_) (fun hc => ?_)
  · have h := e_t hc h
    refine z_iconst (0 : Int32) C dX7_has_24 (by decide) ?_
    obtain rfl := Option.some.inj h
    exact z_sub [] rfl hj1
  · have h := e_f hc h
    refine z_iload_n C dX7_has_4 rfl ?_
    refine z_bipush (16 : Int32) C dX7_has_5 (by decide) ?_
    refine z_icmp_ge 24 C dX7_has_7 (by decide) (fun hc => ?_) (fun hc => ?_)
    · have h := e_t hc h
      refine z_iconst (0 : Int32) C dX7_has_24 (by decide) ?_
      obtain rfl := Option.some.inj h
      exact z_sub [] rfl hj1
    · have h := e_f hc h
      refine z_iload_n C dX7_has_10 rfl ?_
      refine z_aload_n C dX7_has_11 rfl ?_
      refine z_get C O_1 0 rfl (fun _ h9 => hsT _ (inX7 _ h9)) (by decide) (hsT _ tw_1_29) dX7_has_12 rfl ?_
      refine z_iconst (0 : Int32) C dX7_has_15 (by decide) ?_
      obtain ⟨v16, h16, h⟩ := e_bd h
      refine z_iald C I_10 h16 dX7_has_16 ?_
      refine z_icmp_ge 24 C dX7_has_17 (by decide) (fun hc => ?_) (fun hc => ?_)
      · have h := e_t hc h
        refine z_iconst (0 : Int32) C dX7_has_24 (by decide) ?_
        obtain rfl := Option.some.inj h
        exact z_sub [] rfl hj1
      · have h := e_f hc h
        refine z_iconst (1 : Int32) C dX7_has_20 (by decide) ?_
        refine z_goto 25 C dX7_has_21 (by decide) ?_
        obtain rfl := Option.some.inj h
        exact z_sub [] rfl hj1
theorem hy_X7_fact : yX7_fact.cls = RX7 ∧ yX7_fact.cls ≠ "java/lang/invoke/MethodHandle" ∧ yX7_fact.cls ≠ "java/lang/invoke/VarHandle" ∧ (parseMethodDescriptor yX7_fact.desc).map (fun d => d.parameters.length) = some 2 := by decide +kernel
def wX7_fact : List Cond := Cond.code yX7_fact cX7_fact 3 (some .int) :: TB
def f_X7_fact (M : MM) (x1 : Int32) (x2 : Int32) : Option Int32 :=
  (f_X7_has M x1).bind fun (v2 : Int32) =>
  if v2 = 0 then
    some (-1 : Int32)
  else
    if x2 < 0 then
      some (-1 : Int32)
    else
      if x2 < (8 : Int32) then
        (z_ld M 10 141 (((13 : Int32) + (x1 * (8 : Int32))) + x2)).bind fun (v33 : Int32) =>
        some v33
      else
        some (-1 : Int32)
set_option maxRecDepth 100000 in
set_option maxHeartbeats 4000000 in
theorem c_X7_fact (l : Launch) (g : Gx) {M : MM} {x1 : Int32} {x2 : Int32} {r : Int32} (h : f_X7_fact M x1 x2 = some r) : zMi l yX7_fact wX7_fact (rmm 1 21) [.ref (ga g 1), .int x1, .int x2] g M r M := by
  refine zMi_of .int (by decide) rfl (Nat.le_of_ble_eq_true rfl) rfl rfl ?_
  intro x C E
  show zJ g x M 0 [(0, .ref (ga g 1)), (1, .int x1), (2, .int x2)] []
  unfold f_X7_fact at h
  refine z_aload_n C dX7_fact_0 rfl ?_
  refine z_iload_n C dX7_fact_1 rfl ?_
  obtain ⟨v2, h2, h⟩ := e_bd h
  refine z_callVi (As := [.int x1]) C (c_X7_has l g h2) rfl O_1 rfl (gcV hsT tw_2_97 cw_X7_has) rfl rfl rfl hy_X7_has rfl ⟨Nat.le_of_ble_eq_true rfl, Nat.le_of_ble_eq_true rfl⟩ (Nat.le_of_ble_eq_true rfl) dX7_fact_2 ?_
  refine z_if_eq 18 C dX7_fact_5 (by decide) (fun hc => ?_) (fun hc => ?_)
  · have h := e_t hc h
    refine z_iconst (-1 : Int32) C dX7_fact_18 (by decide) ?_
    obtain rfl := Option.some.inj h
    exact z_iret C E dX7_fact_19
  · have h := e_f hc h
    refine z_iload_n C dX7_fact_8 rfl ?_
    refine z_if_lt 18 C dX7_fact_9 (by decide) (fun hc => ?_) (fun hc => ?_)
    · have h := e_t hc h
      refine z_iconst (-1 : Int32) C dX7_fact_18 (by decide) ?_
      obtain rfl := Option.some.inj h
      exact z_iret C E dX7_fact_19
    · have h := e_f hc h
      refine z_iload_n C dX7_fact_12 rfl ?_
      refine z_bipush (8 : Int32) C dX7_fact_13 (by decide) ?_
      refine z_icmp_lt 20 C dX7_fact_15 (by decide) (fun hc => ?_) (fun hc => ?_)
      · have h := e_t hc h
        refine z_aload_n C dX7_fact_20 rfl ?_
        refine z_get C O_1 0 rfl (fun _ h9 => hsT _ (inX7 _ h9)) (by decide) (hsT _ tw_1_29) dX7_fact_21 rfl ?_
        refine z_bipush (13 : Int32) C dX7_fact_24 (by decide) ?_
        refine z_iload_n C dX7_fact_26 rfl ?_
        refine z_bipush (8 : Int32) C dX7_fact_27 (by decide) ?_
        refine z_imul C dX7_fact_29 ?_
        refine z_iadd C dX7_fact_30 ?_
        refine z_iload_n C dX7_fact_31 rfl ?_
        refine z_iadd C dX7_fact_32 ?_
        obtain ⟨v33, h33, h⟩ := e_bd h
        refine z_iald C I_10 h33 dX7_fact_33 ?_
        obtain rfl := Option.some.inj h
        exact z_iret C E dX7_fact_34
      · have h := e_f hc h
        refine z_iconst (-1 : Int32) C dX7_fact_18 (by decide) ?_
        obtain rfl := Option.some.inj h
        exact z_iret C E dX7_fact_19
theorem hy_X7_isMan : yX7_isMan.cls = RX7 ∧ yX7_isMan.cls ≠ "java/lang/invoke/MethodHandle" ∧ yX7_isMan.cls ≠ "java/lang/invoke/VarHandle" ∧ (parseMethodDescriptor yX7_isMan.desc).map (fun d => d.parameters.length) = some 1 := by decide +kernel
def wX7_isMan : List Cond := Cond.code yX7_isMan cX7_isMan 2 (some .boolean) :: TB
def f_X7_isMan (M : MM) (x1 : Int32) : Option Int32 :=
  (f_X7_fact M x1 (0 : Int32)).bind fun (v3 : Int32) =>
  (if v3 = 0 then
    some (1 : Int32)
  else
    some (0 : Int32)
  ).bind fun (j6 : Int32) =>
    z_rzp j6
set_option maxRecDepth 100000 in
set_option maxHeartbeats 4000000 in
theorem c_X7_isMan (l : Launch) (g : Gx) {M : MM} {x1 : Int32} {r : Int32} (h : f_X7_isMan M x1 = some r) : zMi l yX7_isMan wX7_isMan (rmm 2 43) [.ref (ga g 1), .int x1] g M r M := by
  refine zMi_of .boolean (by decide) rfl (Nat.le_of_ble_eq_true rfl) rfl rfl ?_
  intro x C E
  show zJ g x M 0 [(0, .ref (ga g 1)), (1, .int x1)] []
  unfold f_X7_isMan at h
  refine z_aload_n C dX7_isMan_0 rfl ?_
  refine z_iload_n C dX7_isMan_1 rfl ?_
  refine z_iconst (0 : Int32) C dX7_isMan_2 (by decide) ?_
  obtain ⟨v3, h3, h⟩ := e_bd h
  refine z_callVi (As := [.int x1, .int (0 : Int32)]) C (c_X7_fact l g h3) rfl O_1 rfl (gcV hsT tw_2_106 cw_X7_fact) rfl rfl rfl hy_X7_fact rfl ⟨Nat.le_of_ble_eq_true rfl, Nat.le_of_ble_eq_true rfl⟩ (Nat.le_of_ble_eq_true rfl) dX7_isMan_3 ?_
  obtain ⟨j6, h6, h⟩ := e_bd h
  have hj6 : zJ g x M 14 [] [.int j6] := by
    obtain ⟨hz, rfl⟩ := e_rzp h
    exact z_zret C E hz dX7_isMan_14
  have h := h6
  refine z_if_ne 13 C dX7_isMan_6 (by decide) (fun hc => ?_) (fun hc => ?_)
  · have h := e_f hc h
    refine z_iconst (0 : Int32) C dX7_isMan_13 (by decide) ?_
    obtain rfl := Option.some.inj h
    exact z_sub [] rfl hj6
  · have h := e_t hc h
    refine z_iconst (1 : Int32) C dX7_isMan_9 (by decide) ?_
    refine z_goto 14 C dX7_isMan_10 (by decide) ?_
    obtain rfl := Option.some.inj h
    exact z_sub [] rfl hj6
theorem hy_X7_isWoman : yX7_isWoman.cls = RX7 ∧ yX7_isWoman.cls ≠ "java/lang/invoke/MethodHandle" ∧ yX7_isWoman.cls ≠ "java/lang/invoke/VarHandle" ∧ (parseMethodDescriptor yX7_isWoman.desc).map (fun d => d.parameters.length) = some 1 := by decide +kernel
def wX7_isWoman : List Cond := Cond.code yX7_isWoman cX7_isWoman 2 (some .boolean) :: TB
def f_X7_isWoman (M : MM) (x1 : Int32) : Option Int32 :=
  (f_X7_fact M x1 (0 : Int32)).bind fun (v3 : Int32) =>
  (if v3 = (1 : Int32) then
    some (1 : Int32)
  else
    some (0 : Int32)
  ).bind fun (j7 : Int32) =>
    z_rzp j7
set_option maxRecDepth 100000 in
set_option maxHeartbeats 4000000 in
theorem c_X7_isWoman (l : Launch) (g : Gx) {M : MM} {x1 : Int32} {r : Int32} (h : f_X7_isWoman M x1 = some r) : zMi l yX7_isWoman wX7_isWoman (rmm 2 43) [.ref (ga g 1), .int x1] g M r M := by
  refine zMi_of .boolean (by decide) rfl (Nat.le_of_ble_eq_true rfl) rfl rfl ?_
  intro x C E
  show zJ g x M 0 [(0, .ref (ga g 1)), (1, .int x1)] []
  unfold f_X7_isWoman at h
  refine z_aload_n C dX7_isWoman_0 rfl ?_
  refine z_iload_n C dX7_isWoman_1 rfl ?_
  refine z_iconst (0 : Int32) C dX7_isWoman_2 (by decide) ?_
  obtain ⟨v3, h3, h⟩ := e_bd h
  refine z_callVi (As := [.int x1, .int (0 : Int32)]) C (c_X7_fact l g h3) rfl O_1 rfl (gcV hsT tw_2_106 cw_X7_fact) rfl rfl rfl hy_X7_fact rfl ⟨Nat.le_of_ble_eq_true rfl, Nat.le_of_ble_eq_true rfl⟩ (Nat.le_of_ble_eq_true rfl) dX7_isWoman_3 ?_
  refine z_iconst (1 : Int32) C dX7_isWoman_6 (by decide) ?_
  obtain ⟨j7, h7, h⟩ := e_bd h
  have hj7 : zJ g x M 15 [] [.int j7] := by
    obtain ⟨hz, rfl⟩ := e_rzp h
    exact z_zret C E hz dX7_isWoman_15
  have h := h7
  refine z_icmp_ne 14 C dX7_isWoman_7 (by decide) (fun hc => ?_) (fun hc => ?_)
  · have h := e_f hc h
    refine z_iconst (0 : Int32) C dX7_isWoman_14 (by decide) ?_
    obtain rfl := Option.some.inj h
    exact z_sub [] rfl hj7
  · have h := e_t hc h
    refine z_iconst (1 : Int32) C dX7_isWoman_10 (by decide) ?_
    refine z_goto 15 C dX7_isWoman_11 (by decide) ?_
    obtain rfl := Option.some.inj h
    exact z_sub [] rfl hj7
theorem hy_X7_ruleNow : yX7_ruleNow.cls = RX7 ∧ yX7_ruleNow.cls ≠ "java/lang/invoke/MethodHandle" ∧ yX7_ruleNow.cls ≠ "java/lang/invoke/VarHandle" ∧ (parseMethodDescriptor yX7_ruleNow.desc).map (fun d => d.parameters.length) = some 0 := by decide +kernel
def wX7_ruleNow : List Cond := Cond.code yX7_ruleNow cX7_ruleNow 1 (some .int) :: TB
def f_X7_ruleNow (M : MM)  : Option Int32 :=
  (z_ld M 10 141 (1 : Int32)).bind fun (v5 : Int32) =>
  some v5
set_option maxRecDepth 100000 in
set_option maxHeartbeats 4000000 in
theorem c_X7_ruleNow (l : Launch) (g : Gx) {M : MM}  {r : Int32} (h : f_X7_ruleNow M  = some r) : zMi l yX7_ruleNow wX7_ruleNow (rmm 0 0) [.ref (ga g 1)] g M r M := by
  refine zMi_of .int (by decide) rfl (Nat.le_of_ble_eq_true rfl) rfl rfl ?_
  intro x C E
  show zJ g x M 0 [(0, .ref (ga g 1))] []
  unfold f_X7_ruleNow at h
  refine z_aload_n C dX7_ruleNow_0 rfl ?_
  refine z_get C O_1 0 rfl (fun _ h9 => hsT _ (inX7 _ h9)) (by decide) (hsT _ tw_1_29) dX7_ruleNow_1 rfl ?_
  refine z_iconst (1 : Int32) C dX7_ruleNow_4 (by decide) ?_
  obtain ⟨v5, h5, h⟩ := e_bd h
  refine z_iald C I_10 h5 dX7_ruleNow_5 ?_
  obtain rfl := Option.some.inj h
  exact z_iret C E dX7_ruleNow_6
theorem hy_X7_hasRoom : yX7_hasRoom.cls = RX7 ∧ yX7_hasRoom.cls ≠ "java/lang/invoke/MethodHandle" ∧ yX7_hasRoom.cls ≠ "java/lang/invoke/VarHandle" ∧ (parseMethodDescriptor yX7_hasRoom.desc).map (fun d => d.parameters.length) = some 0 := by decide +kernel
def wX7_hasRoom : List Cond := Cond.code yX7_hasRoom cX7_hasRoom 1 (some .boolean) :: TB
def f_X7_hasRoom (M : MM)  : Option Int32 :=
  (f_X7_people M ).bind fun (v1 : Int32) =>
  (if (16 : Int32) ≤ v1 then
    some (0 : Int32)
  else
    some (1 : Int32)
  ).bind fun (j6 : Int32) =>
    z_rzp j6
set_option maxRecDepth 100000 in
set_option maxHeartbeats 4000000 in
theorem c_X7_hasRoom (l : Launch) (g : Gx) {M : MM}  {r : Int32} (h : f_X7_hasRoom M  = some r) : zMi l yX7_hasRoom wX7_hasRoom (rmm 1 20) [.ref (ga g 1)] g M r M := by
  refine zMi_of .boolean (by decide) rfl (Nat.le_of_ble_eq_true rfl) rfl rfl ?_
  intro x C E
  show zJ g x M 0 [(0, .ref (ga g 1))] []
  unfold f_X7_hasRoom at h
  refine z_aload_n C dX7_hasRoom_0 rfl ?_
  obtain ⟨v1, h1, h⟩ := e_bd h
  refine z_callVi (As := []) C (c_X7_people l g h1) rfl O_1 rfl (gcV hsT tw_2_105 cw_X7_people) rfl rfl rfl hy_X7_people rfl ⟨Nat.le_of_ble_eq_true rfl, Nat.le_of_ble_eq_true rfl⟩ (Nat.le_of_ble_eq_true rfl) dX7_hasRoom_1 ?_
  refine z_bipush (16 : Int32) C dX7_hasRoom_4 (by decide) ?_
  obtain ⟨j6, h6, h⟩ := e_bd h
  have hj6 : zJ g x M 14 [] [.int j6] := by
    obtain ⟨hz, rfl⟩ := e_rzp h
    exact z_zret C E hz dX7_hasRoom_14
  have h := h6
  refine z_icmp_ge 13 C dX7_hasRoom_6 (by decide) (fun hc => ?_) (fun hc => ?_)
  · have h := e_t hc h
    refine z_iconst (0 : Int32) C dX7_hasRoom_13 (by decide) ?_
    obtain rfl := Option.some.inj h
    exact z_sub [] rfl hj6
  · have h := e_f hc h
    refine z_iconst (1 : Int32) C dX7_hasRoom_9 (by decide) ?_
    refine z_goto 14 C dX7_hasRoom_10 (by decide) ?_
    obtain rfl := Option.some.inj h
    exact z_sub [] rfl hj6
theorem hy_X7_addPerson : yX7_addPerson.cls = RX7 ∧ yX7_addPerson.cls ≠ "java/lang/invoke/MethodHandle" ∧ yX7_addPerson.cls ≠ "java/lang/invoke/VarHandle" ∧ (parseMethodDescriptor yX7_addPerson.desc).map (fun d => d.parameters.length) = some 4 := by decide +kernel
def wX7_addPerson : List Cond := Cond.code yX7_addPerson cX7_addPerson 6 none :: TB
def f_X7_addPerson (M : MM) (x1 : Int32) (x2 : Int32) (x3 : Int32) (x4 : Int32) : Option MM :=
  (f_X7_hasRoom M ).bind fun (v1 : Int32) =>
  if v1 = 0 then
    some M
  else
    (f_X7_people M ).bind fun (v11 : Int32) =>
    (z_sto M 10 141 (((13 : Int32) + (v11 * (8 : Int32))) + (0 : Int32)) x1).bind fun (M29 : MM) =>
    (if x3 = (-1 : Int32) then
      some x2
    else
      (f_X7_fact M29 x3 (1 : Int32)).bind fun (v50 : Int32) =>
      some v50
    ).bind fun (j40 : Int32) =>
      (z_sto M29 10 141 (((13 : Int32) + (v11 * (8 : Int32))) + (1 : Int32)) j40).bind fun (M53 : MM) =>
      (z_sto M53 10 141 (((13 : Int32) + (v11 * (8 : Int32))) + (2 : Int32)) x3).bind fun (M63 : MM) =>
      (z_sto M63 10 141 (((13 : Int32) + (v11 * (8 : Int32))) + (3 : Int32)) x4).bind fun (M74 : MM) =>
      (z_sto M74 10 141 (((13 : Int32) + (v11 * (8 : Int32))) + (4 : Int32)) (0 : Int32)).bind fun (M84 : MM) =>
      (z_sto M84 10 141 (((13 : Int32) + (v11 * (8 : Int32))) + (5 : Int32)) (999 : Int32)).bind fun (M96 : MM) =>
      (z_sto M96 10 141 (((13 : Int32) + (v11 * (8 : Int32))) + (6 : Int32)) (0 : Int32)).bind fun (M107 : MM) =>
      (z_sto M107 10 141 (((13 : Int32) + (v11 * (8 : Int32))) + (7 : Int32)) (999 : Int32)).bind fun (M120 : MM) =>
      (z_ld M120 10 141 (0 : Int32)).bind fun (v127 : Int32) =>
      (z_sto M120 10 141 (0 : Int32) (v127 + (1 : Int32))).bind fun (M130 : MM) =>
      some M130
set_option maxRecDepth 100000 in
set_option maxHeartbeats 4000000 in
theorem c_X7_addPerson (l : Launch) (g : Gx) {M : MM} {x1 : Int32} {x2 : Int32} {x3 : Int32} {x4 : Int32} {r : MM} (h : f_X7_addPerson M x1 x2 x3 x4 = some r) : zMv l yX7_addPerson wX7_addPerson (rmm 2 43) [.ref (ga g 1), .int x1, .int x2, .int x3, .int x4] g M r := by
  refine zMv_of (by decide) rfl (Nat.le_of_ble_eq_true rfl) rfl rfl ?_
  intro x C E
  show zJ g x M 0 [(0, .ref (ga g 1)), (1, .int x1), (2, .int x2), (3, .int x3), (4, .int x4)] []
  unfold f_X7_addPerson at h
  refine z_aload_n C dX7_addPerson_0 rfl ?_
  obtain ⟨v1, h1, h⟩ := e_bd h
  refine z_callVi (As := []) C (c_X7_hasRoom l g h1) rfl O_1 rfl (gcV hsT tw_3_13 cw_X7_hasRoom) rfl rfl rfl hy_X7_hasRoom rfl ⟨Nat.le_of_ble_eq_true rfl, Nat.le_of_ble_eq_true rfl⟩ (Nat.le_of_ble_eq_true rfl) dX7_addPerson_1 ?_
  refine z_if_ne 8 C dX7_addPerson_4 (by decide) (fun hc => ?_) (fun hc => ?_)
  · have h := e_f hc h
    refine z_bipush (13 : Int32) C dX7_addPerson_8 (by decide) ?_
    refine z_aload_n C dX7_addPerson_10 rfl ?_
    obtain ⟨v11, h11, h⟩ := e_bd h
    refine z_callVi (As := []) C (c_X7_people l g h11) rfl O_1 rfl (gcV hsT tw_2_105 cw_X7_people) rfl rfl rfl hy_X7_people rfl ⟨Nat.le_of_ble_eq_true rfl, Nat.le_of_ble_eq_true rfl⟩ (Nat.le_of_ble_eq_true rfl) dX7_addPerson_11 ?_
    refine z_bipush (8 : Int32) C dX7_addPerson_14 (by decide) ?_
    refine z_imul C dX7_addPerson_16 ?_
    refine z_iadd C dX7_addPerson_17 ?_
    refine z_istore [(5, .int ((13 : Int32) + (v11 * (8 : Int32)))), (0, .ref (ga g 1)), (1, .int x1), (2, .int x2), (3, .int x3), (4, .int x4)] C dX7_addPerson_18 (by decide) rfl ?_
    refine z_aload_n C dX7_addPerson_20 rfl ?_
    refine z_get C O_1 0 rfl (fun _ h9 => hsT _ (inX7 _ h9)) (by decide) (hsT _ tw_1_29) dX7_addPerson_21 rfl ?_
    refine z_iload C dX7_addPerson_24 rfl ?_
    refine z_iconst (0 : Int32) C dX7_addPerson_26 (by decide) ?_
    refine z_iadd C dX7_addPerson_27 ?_
    refine z_iload_n C dX7_addPerson_28 rfl ?_
    obtain ⟨M29, h29, h⟩ := e_bd h
    refine z_iast C I_10 h29 dX7_addPerson_29 ?_
    refine z_aload_n C dX7_addPerson_30 rfl ?_
    refine z_get C O_1 0 rfl (fun _ h9 => hsT _ (inX7 _ h9)) (by decide) (hsT _ tw_1_29) dX7_addPerson_31 rfl ?_
    refine z_iload C dX7_addPerson_34 rfl ?_
    refine z_iconst (1 : Int32) C dX7_addPerson_36 (by decide) ?_
    refine z_iadd C dX7_addPerson_37 ?_
    refine z_iload_n C dX7_addPerson_38 rfl ?_
    refine z_iconst (-1 : Int32) C dX7_addPerson_39 (by decide) ?_
    obtain ⟨j40, h40, h⟩ := e_bd h
    have hj40 : zJ g x M29 53 [(0, .ref (ga g 1)), (3, .int x3), (4, .int x4), (5, .int ((13 : Int32) + (v11 * (8 : Int32))))] [.int j40, .int (((13 : Int32) + (v11 * (8 : Int32))) + (1 : Int32)), .ref (ga g 10)] := by
      obtain ⟨M53, h53, h⟩ := e_bd h
      refine z_iast C I_10 h53 dX7_addPerson_53 ?_
      refine z_aload_n C dX7_addPerson_54 rfl ?_
      refine z_get C O_1 0 rfl (fun _ h9 => hsT _ (inX7 _ h9)) (by decide) (hsT _ tw_1_29) dX7_addPerson_55 rfl ?_
      refine z_iload C dX7_addPerson_58 rfl ?_
      refine z_iconst (2 : Int32) C dX7_addPerson_60 (by decide) ?_
      refine z_iadd C dX7_addPerson_61 ?_
      refine z_iload_n C dX7_addPerson_62 rfl ?_
      obtain ⟨M63, h63, h⟩ := e_bd h
      refine z_iast C I_10 h63 dX7_addPerson_63 ?_
      refine z_aload_n C dX7_addPerson_64 rfl ?_
      refine z_get C O_1 0 rfl (fun _ h9 => hsT _ (inX7 _ h9)) (by decide) (hsT _ tw_1_29) dX7_addPerson_65 rfl ?_
      refine z_iload C dX7_addPerson_68 rfl ?_
      refine z_iconst (3 : Int32) C dX7_addPerson_70 (by decide) ?_
      refine z_iadd C dX7_addPerson_71 ?_
      refine z_iload C dX7_addPerson_72 rfl ?_
      obtain ⟨M74, h74, h⟩ := e_bd h
      refine z_iast C I_10 h74 dX7_addPerson_74 ?_
      refine z_aload_n C dX7_addPerson_75 rfl ?_
      refine z_get C O_1 0 rfl (fun _ h9 => hsT _ (inX7 _ h9)) (by decide) (hsT _ tw_1_29) dX7_addPerson_76 rfl ?_
      refine z_iload C dX7_addPerson_79 rfl ?_
      refine z_iconst (4 : Int32) C dX7_addPerson_81 (by decide) ?_
      refine z_iadd C dX7_addPerson_82 ?_
      refine z_iconst (0 : Int32) C dX7_addPerson_83 (by decide) ?_
      obtain ⟨M84, h84, h⟩ := e_bd h
      refine z_iast C I_10 h84 dX7_addPerson_84 ?_
      refine z_aload_n C dX7_addPerson_85 rfl ?_
      refine z_get C O_1 0 rfl (fun _ h9 => hsT _ (inX7 _ h9)) (by decide) (hsT _ tw_1_29) dX7_addPerson_86 rfl ?_
      refine z_iload C dX7_addPerson_89 rfl ?_
      refine z_iconst (5 : Int32) C dX7_addPerson_91 (by decide) ?_
      refine z_iadd C dX7_addPerson_92 ?_
      refine z_sipush (999 : Int32) C dX7_addPerson_93 (by decide) ?_
      obtain ⟨M96, h96, h⟩ := e_bd h
      refine z_iast C I_10 h96 dX7_addPerson_96 ?_
      refine z_aload_n C dX7_addPerson_97 rfl ?_
      refine z_get C O_1 0 rfl (fun _ h9 => hsT _ (inX7 _ h9)) (by decide) (hsT _ tw_1_29) dX7_addPerson_98 rfl ?_
      refine z_iload C dX7_addPerson_101 rfl ?_
      refine z_bipush (6 : Int32) C dX7_addPerson_103 (by decide) ?_
      refine z_iadd C dX7_addPerson_105 ?_
      refine z_iconst (0 : Int32) C dX7_addPerson_106 (by decide) ?_
      obtain ⟨M107, h107, h⟩ := e_bd h
      refine z_iast C I_10 h107 dX7_addPerson_107 ?_
      refine z_aload_n C dX7_addPerson_108 rfl ?_
      refine z_get C O_1 0 rfl (fun _ h9 => hsT _ (inX7 _ h9)) (by decide) (hsT _ tw_1_29) dX7_addPerson_109 rfl ?_
      refine z_iload C dX7_addPerson_112 rfl ?_
      refine z_bipush (7 : Int32) C dX7_addPerson_114 (by decide) ?_
      refine z_iadd C dX7_addPerson_116 ?_
      refine z_sipush (999 : Int32) C dX7_addPerson_117 (by decide) ?_
      obtain ⟨M120, h120, h⟩ := e_bd h
      refine z_iast C I_10 h120 dX7_addPerson_120 ?_
      refine z_aload_n C dX7_addPerson_121 rfl ?_
      refine z_get C O_1 0 rfl (fun _ h9 => hsT _ (inX7 _ h9)) (by decide) (hsT _ tw_1_29) dX7_addPerson_122 rfl ?_
      refine z_iconst (0 : Int32) C dX7_addPerson_125 (by decide) ?_
      refine z_dup2 C dX7_addPerson_126 rfl rfl ?_
      obtain ⟨v127, h127, h⟩ := e_bd h
      refine z_iald C I_10 h127 dX7_addPerson_127 ?_
      refine z_iconst (1 : Int32) C dX7_addPerson_128 (by decide) ?_
      refine z_iadd C dX7_addPerson_129 ?_
      obtain ⟨M130, h130, h⟩ := e_bd h
      refine z_iast C I_10 h130 dX7_addPerson_130 ?_
      obtain rfl := Option.some.inj h
      exact z_vret C E dX7_addPerson_131
    have h := h40
    refine z_icmp_ne 47 C dX7_addPerson_40 (by decide) (fun hc => ?_) (fun hc => ?_)
    · have h := e_f hc h
      refine z_aload_n C dX7_addPerson_47 rfl ?_
      refine z_iload_n C dX7_addPerson_48 rfl ?_
      refine z_iconst (1 : Int32) C dX7_addPerson_49 (by decide) ?_
      obtain ⟨v50, h50, h⟩ := e_bd h
      refine z_callVi (As := [.int x3, .int (1 : Int32)]) C (c_X7_fact l g h50) rfl O_1 rfl (gcV hsT tw_2_106 cw_X7_fact) rfl rfl rfl hy_X7_fact rfl ⟨Nat.le_of_ble_eq_true rfl, Nat.le_of_ble_eq_true rfl⟩ (Nat.le_of_ble_eq_true rfl) dX7_addPerson_50 ?_
      obtain rfl := Option.some.inj h
      exact z_sub [1, 4, 5, 0] rfl hj40
    · have h := e_t hc h
      refine z_iload_n C dX7_addPerson_43 rfl ?_
      refine z_goto 53 C dX7_addPerson_44 (by decide) ?_
      obtain rfl := Option.some.inj h
      exact z_sub [1, 4, 5, 0] rfl hj40
  · have h := e_t hc h
    obtain rfl := Option.some.inj h
    exact z_vret C E dX7_addPerson_7
theorem hy_X7_hasOrNone : yX7_hasOrNone.cls = RX7 ∧ yX7_hasOrNone.cls ≠ "java/lang/invoke/MethodHandle" ∧ yX7_hasOrNone.cls ≠ "java/lang/invoke/VarHandle" ∧ (parseMethodDescriptor yX7_hasOrNone.desc).map (fun d => d.parameters.length) = some 1 := by decide +kernel
def wX7_hasOrNone : List Cond := Cond.code yX7_hasOrNone cX7_hasOrNone 2 (some .boolean) :: TB
def f_X7_hasOrNone (M : MM) (x1 : Int32) : Option Int32 :=
  (if x1 = (-1 : Int32) then
    some (1 : Int32)
  else
    (f_X7_has M x1).bind fun (v7 : Int32) =>
    if v7 = 0 then
      some (0 : Int32)
    else
      some (1 : Int32)
  ).bind fun (j2 : Int32) =>
    z_rzp j2
set_option maxRecDepth 100000 in
set_option maxHeartbeats 4000000 in
theorem c_X7_hasOrNone (l : Launch) (g : Gx) {M : MM} {x1 : Int32} {r : Int32} (h : f_X7_hasOrNone M x1 = some r) : zMi l yX7_hasOrNone wX7_hasOrNone (rmm 1 21) [.ref (ga g 1), .int x1] g M r M := by
  refine zMi_of .boolean (by decide) rfl (Nat.le_of_ble_eq_true rfl) rfl rfl ?_
  intro x C E
  show zJ g x M 0 [(0, .ref (ga g 1)), (1, .int x1)] []
  unfold f_X7_hasOrNone at h
  refine z_iload_n C dX7_hasOrNone_0 rfl ?_
  refine z_iconst (-1 : Int32) C dX7_hasOrNone_1 (by decide) ?_
  obtain ⟨j2, h2, h⟩ := e_bd h
  have hj2 : zJ g x M 18 [] [.int j2] := by
    obtain ⟨hz, rfl⟩ := e_rzp h
    exact z_zret C E hz dX7_hasOrNone_18
  have h := h2
  refine z_icmp_eq 13 C dX7_hasOrNone_2 (by decide) (fun hc => ?_) (fun hc => ?_)
  · have h := e_t hc h
    refine z_iconst (1 : Int32) C dX7_hasOrNone_13 (by decide) ?_
    refine z_goto 18 C dX7_hasOrNone_14 (by decide) ?_
    obtain rfl := Option.some.inj h
    exact z_sub [] rfl hj2
  · have h := e_f hc h
    refine z_aload_n C dX7_hasOrNone_5 rfl ?_
    refine z_iload_n C dX7_hasOrNone_6 rfl ?_
    obtain ⟨v7, h7, h⟩ := e_bd h
    refine z_callVi (As := [.int x1]) C (c_X7_has l g h7) rfl O_1 rfl (gcV hsT tw_2_97 cw_X7_has) rfl rfl rfl hy_X7_has rfl ⟨Nat.le_of_ble_eq_true rfl, Nat.le_of_ble_eq_true rfl⟩ (Nat.le_of_ble_eq_true rfl) dX7_hasOrNone_7 ?_
    refine z_if_eq 17 C dX7_hasOrNone_10 (by decide) (fun hc => ?_) (fun hc => ?_)
    · have h := e_t hc h
      refine z_iconst (0 : Int32) C dX7_hasOrNone_17 (by decide) ?_
      obtain rfl := Option.some.inj h
      exact z_sub [] rfl hj2
    · have h := e_f hc h
      refine z_iconst (1 : Int32) C dX7_hasOrNone_13 (by decide) ?_
      refine z_goto 18 C dX7_hasOrNone_14 (by decide) ?_
      obtain rfl := Option.some.inj h
      exact z_sub [] rfl hj2
theorem hy_X7_childrenOf : yX7_childrenOf.cls = RX7 ∧ yX7_childrenOf.cls ≠ "java/lang/invoke/MethodHandle" ∧ yX7_childrenOf.cls ≠ "java/lang/invoke/VarHandle" ∧ (parseMethodDescriptor yX7_childrenOf.desc).map (fun d => d.parameters.length) = some 1 := by decide +kernel
def wX7_childrenOf : List Cond := Cond.code yX7_childrenOf cX7_childrenOf 4 (some .int) :: TB
def f_X7_childrenOf_L4 : Nat → MM → Int32 → Int32 → Int32 → Option (Int32)
  | 0, _, _, _, _ => none
  | n + 1, M, x1, x2, x3 =>
    (f_X7_people M ).bind fun (v6 : Int32) =>
    if v6 ≤ x3 then
      some x2
    else
      (f_X7_fact M x3 (2 : Int32)).bind fun (v15 : Int32) =>
      (if v15 = x1 then
        some (x2 ||| ((1 : Int32) <<< (x3 &&& 31)))
      else
        (f_X7_fact M x3 (3 : Int32)).bind fun (v25 : Int32) =>
        if v25 = x1 then
          some (x2 ||| ((1 : Int32) <<< (x3 &&& 31)))
        else
          some x2
      ).bind fun (j19 : Int32) =>
        f_X7_childrenOf_L4 n M x1 j19 (x3 + (1 : Int32))
def f_X7_childrenOf (M : MM) (x1 : Int32) : Option Int32 :=
  (f_X7_childrenOf_L4 FU M x1 (0 : Int32) (0 : Int32)).bind fun (w4 : Int32) =>
  some w4
set_option maxRecDepth 100000 in
set_option maxHeartbeats 4000000 in
theorem lp_X7_childrenOf_4 {l : Launch} {g : Gx} {x : Cx} (C : zC g x l RX7 cX7_childrenOf wX7_childrenOf (rmm 2 43) 4) {r : Int32} : ∀ (n : Nat) (M : MM) (x1 x2 x3 : Int32) , f_X7_childrenOf_L4 n M x1 x2 x3 = some r → zJ g x M 44 [(2, .int r)] [] → zJ g x M 4 [(0, .ref (ga g 1)), (1, .int x1), (2, .int x2), (3, .int x3)] [] := by
  intro n
  induction n with
  | zero =>
    intro M x1 x2 x3 h hj
    exact absurd h (by simp [f_X7_childrenOf_L4])
  | succ n ih =>
    intro M x1 x2 x3 h hj
    rw [f_X7_childrenOf_L4] at h
    refine z_iload_n C dX7_childrenOf_4 rfl ?_
    refine z_aload_n C dX7_childrenOf_5 rfl ?_
    obtain ⟨v6, h6, h⟩ := e_bd h
    refine z_callVi (As := []) C (c_X7_people l g h6) rfl O_1 rfl (gcV hsT tw_2_105 cw_X7_people) rfl rfl rfl hy_X7_people rfl ⟨Nat.le_of_ble_eq_true rfl, Nat.le_of_ble_eq_true rfl⟩ (Nat.le_of_ble_eq_true rfl) dX7_childrenOf_6 ?_
    refine z_icmp_ge 44 C dX7_childrenOf_9 (by decide) (fun hc => ?_) (fun hc => ?_)
    · have h := e_t hc h
      obtain rfl := Option.some.inj h
      exact z_sub [2] rfl hj
    · have h := e_f hc h
      refine z_aload_n C dX7_childrenOf_12 rfl ?_
      refine z_iload_n C dX7_childrenOf_13 rfl ?_
      refine z_iconst (2 : Int32) C dX7_childrenOf_14 (by decide) ?_
      obtain ⟨v15, h15, h⟩ := e_bd h
      refine z_callVi (As := [.int x3, .int (2 : Int32)]) C (c_X7_fact l g h15) rfl O_1 rfl (gcV hsT tw_2_106 cw_X7_fact) rfl rfl rfl hy_X7_fact rfl ⟨Nat.le_of_ble_eq_true rfl, Nat.le_of_ble_eq_true rfl⟩ (Nat.le_of_ble_eq_true rfl) dX7_childrenOf_15 ?_
      refine z_iload_n C dX7_childrenOf_18 rfl ?_
      obtain ⟨j19, h19, h⟩ := e_bd h
      have hj19 : zJ g x M 38 [(0, .ref (ga g 1)), (1, .int x1), (2, .int j19), (3, .int x3)] [] := by
        refine z_iinc (v := (x3 + (1 : Int32))) [(3, .int (x3 + (1 : Int32))), (0, .ref (ga g 1)), (1, .int x1), (2, .int j19)] C dX7_childrenOf_38 rfl rfl (by decide) rfl ?_
        refine z_goto 4 C dX7_childrenOf_41 (by decide) ?_
        refine z_sub [1, 2, 3, 0] rfl ?_
        exact ih _ _ _ _ h hj
      have h := h19
      refine z_icmp_eq 32 C dX7_childrenOf_19 (by decide) (fun hc => ?_) (fun hc => ?_)
      · have h := e_t hc h
        refine z_iload_n C dX7_childrenOf_32 rfl ?_
        refine z_iconst (1 : Int32) C dX7_childrenOf_33 (by decide) ?_
        refine z_iload_n C dX7_childrenOf_34 rfl ?_
        refine z_ishl C dX7_childrenOf_35 ?_
        refine z_ior C dX7_childrenOf_36 ?_
        refine z_istore_n [(2, .int (x2 ||| ((1 : Int32) <<< (x3 &&& 31)))), (0, .ref (ga g 1)), (1, .int x1), (3, .int x3)] C dX7_childrenOf_37 (by decide) rfl ?_
        obtain rfl := Option.some.inj h
        exact z_sub [1, 2, 0, 3] rfl hj19
      · have h := e_f hc h
        refine z_aload_n C dX7_childrenOf_22 rfl ?_
        refine z_iload_n C dX7_childrenOf_23 rfl ?_
        refine z_iconst (3 : Int32) C dX7_childrenOf_24 (by decide) ?_
        obtain ⟨v25, h25, h⟩ := e_bd h
        refine z_callVi (As := [.int x3, .int (3 : Int32)]) C (c_X7_fact l g h25) rfl O_1 rfl (gcV hsT tw_2_106 cw_X7_fact) rfl rfl rfl hy_X7_fact rfl ⟨Nat.le_of_ble_eq_true rfl, Nat.le_of_ble_eq_true rfl⟩ (Nat.le_of_ble_eq_true rfl) dX7_childrenOf_25 ?_
        refine z_iload_n C dX7_childrenOf_28 rfl ?_
        refine z_icmp_ne 38 C dX7_childrenOf_29 (by decide) (fun hc => ?_) (fun hc => ?_)
        · have h := e_f hc h
          obtain rfl := Option.some.inj h
          exact z_sub [0, 1, 2, 3] rfl hj19
        · have h := e_t hc h
          refine z_iload_n C dX7_childrenOf_32 rfl ?_
          refine z_iconst (1 : Int32) C dX7_childrenOf_33 (by decide) ?_
          refine z_iload_n C dX7_childrenOf_34 rfl ?_
          refine z_ishl C dX7_childrenOf_35 ?_
          refine z_ior C dX7_childrenOf_36 ?_
          refine z_istore_n [(2, .int (x2 ||| ((1 : Int32) <<< (x3 &&& 31)))), (0, .ref (ga g 1)), (1, .int x1), (3, .int x3)] C dX7_childrenOf_37 (by decide) rfl ?_
          obtain rfl := Option.some.inj h
          exact z_sub [1, 2, 0, 3] rfl hj19
set_option maxRecDepth 100000 in
set_option maxHeartbeats 4000000 in
theorem c_X7_childrenOf (l : Launch) (g : Gx) {M : MM} {x1 : Int32} {r : Int32} (h : f_X7_childrenOf M x1 = some r) : zMi l yX7_childrenOf wX7_childrenOf (rmm 2 43) [.ref (ga g 1), .int x1] g M r M := by
  refine zMi_of .int (by decide) rfl (Nat.le_of_ble_eq_true rfl) rfl rfl ?_
  intro x C E
  show zJ g x M 0 [(0, .ref (ga g 1)), (1, .int x1)] []
  unfold f_X7_childrenOf at h
  refine z_iconst (0 : Int32) C dX7_childrenOf_0 (by decide) ?_
  refine z_istore_n [(2, .int (0 : Int32)), (0, .ref (ga g 1)), (1, .int x1)] C dX7_childrenOf_1 (by decide) rfl ?_
  refine z_iconst (0 : Int32) C dX7_childrenOf_2 (by decide) ?_
  refine z_istore_n [(3, .int (0 : Int32)), (2, .int (0 : Int32)), (0, .ref (ga g 1)), (1, .int x1)] C dX7_childrenOf_3 (by decide) rfl ?_
  obtain ⟨w4, h4, h⟩ := e_bd h
  refine z_sub [2, 3, 1, 0] rfl ?_
  refine lp_X7_childrenOf_4 C _ _ _ _ _ h4 ?_
  refine z_iload_n C dX7_childrenOf_44 rfl ?_
  obtain rfl := Option.some.inj h
  exact z_iret C E dX7_childrenOf_45
theorem hy_X7_setBounds : yX7_setBounds.cls = RX7 ∧ yX7_setBounds.cls ≠ "java/lang/invoke/MethodHandle" ∧ yX7_setBounds.cls ≠ "java/lang/invoke/VarHandle" ∧ (parseMethodDescriptor yX7_setBounds.desc).map (fun d => d.parameters.length) = some 4 := by decide +kernel
def wX7_setBounds : List Cond := Cond.code yX7_setBounds cX7_setBounds 6 none :: TB
def f_X7_setBounds (M : MM) (x1 : Int32) (x2 : Int32) (x3 : Int32) (x4 : Int32) : Option MM :=
  (f_X7_has M x1).bind fun (v2 : Int32) =>
  if v2 = 0 then
    some M
  else
    if x2 < (4 : Int32) then
      some M
    else
      if x2 ≤ (6 : Int32) then
        (z_sto M 10 141 (((13 : Int32) + (x1 * (8 : Int32))) + x2) x3).bind fun (M38 : MM) =>
        (z_sto M38 10 141 ((((13 : Int32) + (x1 * (8 : Int32))) + x2) + (1 : Int32)) x4).bind fun (M49 : MM) =>
        some M49
      else
        some M
set_option maxRecDepth 100000 in
set_option maxHeartbeats 4000000 in
theorem c_X7_setBounds (l : Launch) (g : Gx) {M : MM} {x1 : Int32} {x2 : Int32} {x3 : Int32} {x4 : Int32} {r : MM} (h : f_X7_setBounds M x1 x2 x3 x4 = some r) : zMv l yX7_setBounds wX7_setBounds (rmm 1 21) [.ref (ga g 1), .int x1, .int x2, .int x3, .int x4] g M r := by
  refine zMv_of (by decide) rfl (Nat.le_of_ble_eq_true rfl) rfl rfl ?_
  intro x C E
  show zJ g x M 0 [(0, .ref (ga g 1)), (1, .int x1), (2, .int x2), (3, .int x3), (4, .int x4)] []
  unfold f_X7_setBounds at h
  refine z_aload_n C dX7_setBounds_0 rfl ?_
  refine z_iload_n C dX7_setBounds_1 rfl ?_
  obtain ⟨v2, h2, h⟩ := e_bd h
  refine z_callVi (As := [.int x1]) C (c_X7_has l g h2) rfl O_1 rfl (gcV hsT tw_2_97 cw_X7_has) rfl rfl rfl hy_X7_has rfl ⟨Nat.le_of_ble_eq_true rfl, Nat.le_of_ble_eq_true rfl⟩ (Nat.le_of_ble_eq_true rfl) dX7_setBounds_2 ?_
  refine z_if_eq 19 C dX7_setBounds_5 (by decide) (fun hc => ?_) (fun hc => ?_)
  · have h := e_t hc h
    obtain rfl := Option.some.inj h
    exact z_vret C E dX7_setBounds_19
  · have h := e_f hc h
    refine z_iload_n C dX7_setBounds_8 rfl ?_
    refine z_iconst (4 : Int32) C dX7_setBounds_9 (by decide) ?_
    refine z_icmp_lt 19 C dX7_setBounds_10 (by decide) (fun hc => ?_) (fun hc => ?_)
    · have h := e_t hc h
      obtain rfl := Option.some.inj h
      exact z_vret C E dX7_setBounds_19
    · have h := e_f hc h
      refine z_iload_n C dX7_setBounds_13 rfl ?_
      refine z_bipush (6 : Int32) C dX7_setBounds_14 (by decide) ?_
      refine z_icmp_le 20 C dX7_setBounds_16 (by decide) (fun hc => ?_) (fun hc => ?_)
      · have h := e_t hc h
        refine z_bipush (13 : Int32) C dX7_setBounds_20 (by decide) ?_
        refine z_iload_n C dX7_setBounds_22 rfl ?_
        refine z_bipush (8 : Int32) C dX7_setBounds_23 (by decide) ?_
        refine z_imul C dX7_setBounds_25 ?_
        refine z_iadd C dX7_setBounds_26 ?_
        refine z_iload_n C dX7_setBounds_27 rfl ?_
        refine z_iadd C dX7_setBounds_28 ?_
        refine z_istore [(5, .int (((13 : Int32) + (x1 * (8 : Int32))) + x2)), (0, .ref (ga g 1)), (1, .int x1), (2, .int x2), (3, .int x3), (4, .int x4)] C dX7_setBounds_29 (by decide) rfl ?_
        refine z_aload_n C dX7_setBounds_31 rfl ?_
        refine z_get C O_1 0 rfl (fun _ h9 => hsT _ (inX7 _ h9)) (by decide) (hsT _ tw_1_29) dX7_setBounds_32 rfl ?_
        refine z_iload C dX7_setBounds_35 rfl ?_
        refine z_iload_n C dX7_setBounds_37 rfl ?_
        obtain ⟨M38, h38, h⟩ := e_bd h
        refine z_iast C I_10 h38 dX7_setBounds_38 ?_
        refine z_aload_n C dX7_setBounds_39 rfl ?_
        refine z_get C O_1 0 rfl (fun _ h9 => hsT _ (inX7 _ h9)) (by decide) (hsT _ tw_1_29) dX7_setBounds_40 rfl ?_
        refine z_iload C dX7_setBounds_43 rfl ?_
        refine z_iconst (1 : Int32) C dX7_setBounds_45 (by decide) ?_
        refine z_iadd C dX7_setBounds_46 ?_
        refine z_iload C dX7_setBounds_47 rfl ?_
        obtain ⟨M49, h49, h⟩ := e_bd h
        refine z_iast C I_10 h49 dX7_setBounds_49 ?_
        obtain rfl := Option.some.inj h
        exact z_vret C E dX7_setBounds_50
      · have h := e_f hc h
        obtain rfl := Option.some.inj h
        exact z_vret C E dX7_setBounds_19
theorem hy_X7_setRule : yX7_setRule.cls = RX7 ∧ yX7_setRule.cls ≠ "java/lang/invoke/MethodHandle" ∧ yX7_setRule.cls ≠ "java/lang/invoke/VarHandle" ∧ (parseMethodDescriptor yX7_setRule.desc).map (fun d => d.parameters.length) = some 1 := by decide +kernel
def wX7_setRule : List Cond := Cond.code yX7_setRule cX7_setRule 2 none :: TB
def f_X7_setRule (M : MM) (x1 : Int32) : Option MM :=
  (z_sto M 10 141 (1 : Int32) x1).bind fun (M6 : MM) =>
  some M6
set_option maxRecDepth 100000 in
set_option maxHeartbeats 4000000 in
theorem c_X7_setRule (l : Launch) (g : Gx) {M : MM} {x1 : Int32} {r : MM} (h : f_X7_setRule M x1 = some r) : zMv l yX7_setRule wX7_setRule (rmm 0 0) [.ref (ga g 1), .int x1] g M r := by
  refine zMv_of (by decide) rfl (Nat.le_of_ble_eq_true rfl) rfl rfl ?_
  intro x C E
  show zJ g x M 0 [(0, .ref (ga g 1)), (1, .int x1)] []
  unfold f_X7_setRule at h
  refine z_aload_n C dX7_setRule_0 rfl ?_
  refine z_get C O_1 0 rfl (fun _ h9 => hsT _ (inX7 _ h9)) (by decide) (hsT _ tw_1_29) dX7_setRule_1 rfl ?_
  refine z_iconst (1 : Int32) C dX7_setRule_4 (by decide) ?_
  refine z_iload_n C dX7_setRule_5 rfl ?_
  obtain ⟨M6, h6, h⟩ := e_bd h
  refine z_iast C I_10 h6 dX7_setRule_6 ?_
  obtain rfl := Option.some.inj h
  exact z_vret C E dX7_setRule_7
theorem hy_X7_signs : yX7_signs.cls = RX7 ∧ yX7_signs.cls ≠ "java/lang/invoke/MethodHandle" ∧ yX7_signs.cls ≠ "java/lang/invoke/VarHandle" ∧ (parseMethodDescriptor yX7_signs.desc).map (fun d => d.parameters.length) = some 0 := by decide +kernel
def wX7_signs : List Cond := Cond.code yX7_signs cX7_signs 1 (some .int) :: TB
def f_X7_signs (M : MM)  : Option Int32 :=
  (z_ld M 10 141 (2 : Int32)).bind fun (v5 : Int32) =>
  some v5
set_option maxRecDepth 100000 in
set_option maxHeartbeats 4000000 in
theorem c_X7_signs (l : Launch) (g : Gx) {M : MM}  {r : Int32} (h : f_X7_signs M  = some r) : zMi l yX7_signs wX7_signs (rmm 0 0) [.ref (ga g 1)] g M r M := by
  refine zMi_of .int (by decide) rfl (Nat.le_of_ble_eq_true rfl) rfl rfl ?_
  intro x C E
  show zJ g x M 0 [(0, .ref (ga g 1))] []
  unfold f_X7_signs at h
  refine z_aload_n C dX7_signs_0 rfl ?_
  refine z_get C O_1 0 rfl (fun _ h9 => hsT _ (inX7 _ h9)) (by decide) (hsT _ tw_1_29) dX7_signs_1 rfl ?_
  refine z_iconst (2 : Int32) C dX7_signs_4 (by decide) ?_
  obtain ⟨v5, h5, h⟩ := e_bd h
  refine z_iald C I_10 h5 dX7_signs_5 ?_
  obtain rfl := Option.some.inj h
  exact z_iret C E dX7_signs_6
theorem hy_X7_signNumber : yX7_signNumber.cls = RX7 ∧ yX7_signNumber.cls ≠ "java/lang/invoke/MethodHandle" ∧ yX7_signNumber.cls ≠ "java/lang/invoke/VarHandle" ∧ (parseMethodDescriptor yX7_signNumber.desc).map (fun d => d.parameters.length) = some 1 := by decide +kernel
def wX7_signNumber : List Cond := Cond.code yX7_signNumber cX7_signNumber 2 (some .int) :: TB
def f_X7_signNumber (M : MM) (x1 : Int32) : Option Int32 :=
  (if x1 < 0 then
    some (-1 : Int32)
  else
    if (10 : Int32) ≤ x1 then
      some (-1 : Int32)
    else
      (f_X7_signs M ).bind fun (v12 : Int32) =>
      if v12 ≤ x1 then
        some (-1 : Int32)
      else
        (z_ld M 10 141 ((3 : Int32) + x1)).bind fun (v25 : Int32) =>
        some v25
  ).bind fun (j1 : Int32) =>
    some j1
set_option maxRecDepth 100000 in
set_option maxHeartbeats 4000000 in
theorem c_X7_signNumber (l : Launch) (g : Gx) {M : MM} {x1 : Int32} {r : Int32} (h : f_X7_signNumber M x1 = some r) : zMi l yX7_signNumber wX7_signNumber (rmm 1 20) [.ref (ga g 1), .int x1] g M r M := by
  refine zMi_of .int (by decide) rfl (Nat.le_of_ble_eq_true rfl) rfl rfl ?_
  intro x C E
  show zJ g x M 0 [(0, .ref (ga g 1)), (1, .int x1)] []
  unfold f_X7_signNumber at h
  refine z_iload_n C dX7_signNumber_0 rfl ?_
  obtain ⟨j1, h1, h⟩ := e_bd h
  have hj1 : zJ g x M 30 [] [.int j1] := by
    obtain rfl := Option.some.inj h
    exact z_iret C E dX7_signNumber_30
  have h := h1
  refine z_if_lt 29 C dX7_signNumber_1 (by decide) (fun hc => ?_) (fun hc => ?_)
  · have h := e_t hc h
    refine z_iconst (-1 : Int32) C dX7_signNumber_29 (by decide) ?_
    obtain rfl := Option.some.inj h
    exact z_sub [] rfl hj1
  · have h := e_f hc h
    refine z_iload_n C dX7_signNumber_4 rfl ?_
    refine z_bipush (10 : Int32) C dX7_signNumber_5 (by decide) ?_
    refine z_icmp_ge 29 C dX7_signNumber_7 (by decide) (fun hc => ?_) (fun hc => ?_)
    · have h := e_t hc h
      refine z_iconst (-1 : Int32) C dX7_signNumber_29 (by decide) ?_
      obtain rfl := Option.some.inj h
      exact z_sub [] rfl hj1
    · have h := e_f hc h
      refine z_iload_n C dX7_signNumber_10 rfl ?_
      refine z_aload_n C dX7_signNumber_11 rfl ?_
      obtain ⟨v12, h12, h⟩ := e_bd h
      refine z_callVi (As := []) C (c_X7_signs l g h12) rfl O_1 rfl (gcV hsT tw_2_50 cw_X7_signs) rfl rfl rfl hy_X7_signs rfl ⟨Nat.le_of_ble_eq_true rfl, Nat.le_of_ble_eq_true rfl⟩ (Nat.le_of_ble_eq_true rfl) dX7_signNumber_12 ?_
      refine z_icmp_ge 29 C dX7_signNumber_15 (by decide) (fun hc => ?_) (fun hc => ?_)
      · have h := e_t hc h
        refine z_iconst (-1 : Int32) C dX7_signNumber_29 (by decide) ?_
        obtain rfl := Option.some.inj h
        exact z_sub [] rfl hj1
      · have h := e_f hc h
        refine z_aload_n C dX7_signNumber_18 rfl ?_
        refine z_get C O_1 0 rfl (fun _ h9 => hsT _ (inX7 _ h9)) (by decide) (hsT _ tw_1_29) dX7_signNumber_19 rfl ?_
        refine z_iconst (3 : Int32) C dX7_signNumber_22 (by decide) ?_
        refine z_iload_n C dX7_signNumber_23 rfl ?_
        refine z_iadd C dX7_signNumber_24 ?_
        obtain ⟨v25, h25, h⟩ := e_bd h
        refine z_iald C I_10 h25 dX7_signNumber_25 ?_
        refine z_goto 30 C dX7_signNumber_26 (by decide) ?_
        obtain rfl := Option.some.inj h
        exact z_sub [] rfl hj1
theorem hy_X7_addSign : yX7_addSign.cls = RX7 ∧ yX7_addSign.cls ≠ "java/lang/invoke/MethodHandle" ∧ yX7_addSign.cls ≠ "java/lang/invoke/VarHandle" ∧ (parseMethodDescriptor yX7_addSign.desc).map (fun d => d.parameters.length) = some 1 := by decide +kernel
def wX7_addSign : List Cond := Cond.code yX7_addSign cX7_addSign 2 none :: TB
def f_X7_addSign (M : MM) (x1 : Int32) : Option MM :=
  (f_X7_signs M ).bind fun (v1 : Int32) =>
  (if (10 : Int32) ≤ v1 then
    some M
  else
    (f_X7_signs M ).bind fun (v15 : Int32) =>
    (z_sto M 10 141 ((3 : Int32) + v15) x1).bind fun (M20 : MM) =>
    (z_ld M20 10 141 (2 : Int32)).bind fun (v27 : Int32) =>
    (z_sto M20 10 141 (2 : Int32) (v27 + (1 : Int32))).bind fun (M30 : MM) =>
    some M30
  ).bind fun (j6 : MM) =>
    some j6
set_option maxRecDepth 100000 in
set_option maxHeartbeats 4000000 in
theorem c_X7_addSign (l : Launch) (g : Gx) {M : MM} {x1 : Int32} {r : MM} (h : f_X7_addSign M x1 = some r) : zMv l yX7_addSign wX7_addSign (rmm 1 20) [.ref (ga g 1), .int x1] g M r := by
  refine zMv_of (by decide) rfl (Nat.le_of_ble_eq_true rfl) rfl rfl ?_
  intro x C E
  show zJ g x M 0 [(0, .ref (ga g 1)), (1, .int x1)] []
  unfold f_X7_addSign at h
  refine z_aload_n C dX7_addSign_0 rfl ?_
  obtain ⟨v1, h1, h⟩ := e_bd h
  refine z_callVi (As := []) C (c_X7_signs l g h1) rfl O_1 rfl (gcV hsT tw_2_50 cw_X7_signs) rfl rfl rfl hy_X7_signs rfl ⟨Nat.le_of_ble_eq_true rfl, Nat.le_of_ble_eq_true rfl⟩ (Nat.le_of_ble_eq_true rfl) dX7_addSign_1 ?_
  refine z_bipush (10 : Int32) C dX7_addSign_4 (by decide) ?_
  obtain ⟨j6, h6, h⟩ := e_bd h
  have hj6 : zJ g x j6 31 [] [] := by
    obtain rfl := Option.some.inj h
    exact z_vret C E dX7_addSign_31
  have h := h6
  refine z_icmp_ge 31 C dX7_addSign_6 (by decide) (fun hc => ?_) (fun hc => ?_)
  · have h := e_t hc h
    obtain rfl := Option.some.inj h
    exact z_sub [] rfl hj6
  · have h := e_f hc h
    refine z_aload_n C dX7_addSign_9 rfl ?_
    refine z_get C O_1 0 rfl (fun _ h9 => hsT _ (inX7 _ h9)) (by decide) (hsT _ tw_1_29) dX7_addSign_10 rfl ?_
    refine z_iconst (3 : Int32) C dX7_addSign_13 (by decide) ?_
    refine z_aload_n C dX7_addSign_14 rfl ?_
    obtain ⟨v15, h15, h⟩ := e_bd h
    refine z_callVi (As := []) C (c_X7_signs l g h15) rfl O_1 rfl (gcV hsT tw_2_50 cw_X7_signs) rfl rfl rfl hy_X7_signs rfl ⟨Nat.le_of_ble_eq_true rfl, Nat.le_of_ble_eq_true rfl⟩ (Nat.le_of_ble_eq_true rfl) dX7_addSign_15 ?_
    refine z_iadd C dX7_addSign_18 ?_
    refine z_iload_n C dX7_addSign_19 rfl ?_
    obtain ⟨M20, h20, h⟩ := e_bd h
    refine z_iast C I_10 h20 dX7_addSign_20 ?_
    refine z_aload_n C dX7_addSign_21 rfl ?_
    refine z_get C O_1 0 rfl (fun _ h9 => hsT _ (inX7 _ h9)) (by decide) (hsT _ tw_1_29) dX7_addSign_22 rfl ?_
    refine z_iconst (2 : Int32) C dX7_addSign_25 (by decide) ?_
    refine z_dup2 C dX7_addSign_26 rfl rfl ?_
    obtain ⟨v27, h27, h⟩ := e_bd h
    refine z_iald C I_10 h27 dX7_addSign_27 ?_
    refine z_iconst (1 : Int32) C dX7_addSign_28 (by decide) ?_
    refine z_iadd C dX7_addSign_29 ?_
    obtain ⟨M30, h30, h⟩ := e_bd h
    refine z_iast C I_10 h30 dX7_addSign_30 ?_
    obtain rfl := Option.some.inj h
    exact z_sub [] rfl hj6
theorem hy_X7_clearSigns : yX7_clearSigns.cls = RX7 ∧ yX7_clearSigns.cls ≠ "java/lang/invoke/MethodHandle" ∧ yX7_clearSigns.cls ≠ "java/lang/invoke/VarHandle" ∧ (parseMethodDescriptor yX7_clearSigns.desc).map (fun d => d.parameters.length) = some 0 := by decide +kernel
def wX7_clearSigns : List Cond := Cond.code yX7_clearSigns cX7_clearSigns 1 none :: TB
def f_X7_clearSigns (M : MM)  : Option MM :=
  (z_sto M 10 141 (2 : Int32) (0 : Int32)).bind fun (M6 : MM) =>
  some M6
set_option maxRecDepth 100000 in
set_option maxHeartbeats 4000000 in
theorem c_X7_clearSigns (l : Launch) (g : Gx) {M : MM}  {r : MM} (h : f_X7_clearSigns M  = some r) : zMv l yX7_clearSigns wX7_clearSigns (rmm 0 0) [.ref (ga g 1)] g M r := by
  refine zMv_of (by decide) rfl (Nat.le_of_ble_eq_true rfl) rfl rfl ?_
  intro x C E
  show zJ g x M 0 [(0, .ref (ga g 1))] []
  unfold f_X7_clearSigns at h
  refine z_aload_n C dX7_clearSigns_0 rfl ?_
  refine z_get C O_1 0 rfl (fun _ h9 => hsT _ (inX7 _ h9)) (by decide) (hsT _ tw_1_29) dX7_clearSigns_1 rfl ?_
  refine z_iconst (2 : Int32) C dX7_clearSigns_4 (by decide) ?_
  refine z_iconst (0 : Int32) C dX7_clearSigns_5 (by decide) ?_
  obtain ⟨M6, h6, h⟩ := e_bd h
  refine z_iast C I_10 h6 dX7_clearSigns_6 ?_
  obtain rfl := Option.some.inj h
  exact z_vret C E dX7_clearSigns_7
