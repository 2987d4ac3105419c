theorem hy_X10_told : yX10_told.cls = RX10 ∧ yX10_told.cls ≠ "java/lang/invoke/MethodHandle" ∧ yX10_told.cls ≠ "java/lang/invoke/VarHandle" ∧ (parseMethodDescriptor yX10_told.desc).map (fun d => d.parameters.length) = some 1 := by decide +kernel
def wX10_told : List Cond := Cond.code yX10_told cX10_told 2 (some .int) :: TB
def f_X10_told (M : MM) (x1 : Int32) : Option (Int32 × MM) :=
  if x1 = (0 : Int32) then
    (f_X7_people M ).bind fun (v68 : Int32) =>
    some (v68, M)
  else
  if x1 = (1 : Int32) then
    (f_X7_ruleNow M ).bind fun (v76 : Int32) =>
    some (v76, M)
  else
  if x1 = (2 : Int32) then
    (f_X7_signs M ).bind fun (v84 : Int32) =>
    some (v84, M)
  else
  if x1 = (3 : Int32) then
    some ((M 2 4), M)
  else
  if x1 = (4 : Int32) then
    (f_X1_unlikeCoats M ).bind fun (v100 : Int32) =>
    some (v100, M)
  else
  if x1 = (5 : Int32) then
    (f_X9_spoiledBit M ).bind fun (v108 : Int32) =>
    some (v108, M)
  else
  if x1 = (6 : Int32) then
    (f_X8_meantByAll M ).bind fun (v124 : Int32) =>
    some (v124, M)
  else
  if x1 = (7 : Int32) then
    (f_X8_meantBySome M ).bind fun (v140 : Int32) =>
    some (v140, M)
  else
  if x1 = (8 : Int32) then
    (f_X8_likely M ).bind fun (s156 : Int32 × MM) =>
    some (s156.1, s156.2)
  else
  if x1 = (9 : Int32) then
    some ((M 6 3), M)
  else
  if x1 = (10 : Int32) then
    (f_X0_firstWrong M ).bind fun (v176 : Int32) =>
    some (v176, M)
  else
  if x1 = (11 : Int32) then
    some ((M 7 2), M)
  else
  some ((-1000000002 : Int32), M)
set_option maxRecDepth 100000 in
set_option maxHeartbeats 4000000 in
theorem c_X10_told (l : Launch) (g : Gx) {M : MM} {x1 : Int32} {r : Int32 × MM} (h : f_X10_told M x1 = some r) : zMi l yX10_told wX10_told (rmm 5 122) [.ref (ga g 0), .int x1] g M r.1 r.2 := by
  refine zMi_of .int (by decide) rfl (Nat.le_of_ble_eq_true rfl) rfl rfl ?_
  intro x C E
  show zJ g x M 0 [(0, .ref (ga g 0)), (1, .int x1)] []
  unfold f_X10_told at h
  refine z_iload_n C dX10_told_0 rfl ?_
  by_cases hs0 : x1 = (0 : Int32)
  · have h := e_t hs0 h
    refine z_tableIn 64 C dX10_told_1 (by rw [hs0]; decide) (by rw [hs0]; decide) (by rw [hs0]; rfl) (by decide) ?_
    refine z_aload_n C dX10_told_64 rfl ?_
    refine z_get C O_0 0 rfl (fun _ h9 => hsT _ (inX10 _ h9)) (by decide) (hsT _ tw_1_205) dX10_told_65 rfl ?_
    obtain ⟨v68, h68, h⟩ := e_bd h
    refine z_callVi (As := []) C (c_X7_people l g h68) rfl O_1 rfl (gcV hsT tw_1_237 cw_X7_people) rfl rfl rfl hy_X7_people rfl ⟨Nat.le_of_ble_eq_true rfl, Nat.le_of_ble_eq_true rfl⟩ (Nat.le_of_ble_eq_true rfl) dX10_told_68 ?_
    obtain rfl := Option.some.inj h
    exact z_iret C E dX10_told_71
  replace h := e_f hs0 h
  by_cases hs1 : x1 = (1 : Int32)
  · have h := e_t hs1 h
    refine z_tableIn 72 C dX10_told_1 (by rw [hs1]; decide) (by rw [hs1]; decide) (by rw [hs1]; rfl) (by decide) ?_
    refine z_aload_n C dX10_told_72 rfl ?_
    refine z_get C O_0 0 rfl (fun _ h9 => hsT _ (inX10 _ h9)) (by decide) (hsT _ tw_1_205) dX10_told_73 rfl ?_
    obtain ⟨v76, h76, h⟩ := e_bd h
    refine z_callVi (As := []) C (c_X7_ruleNow l g h76) rfl O_1 rfl (gcV hsT tw_2_1 cw_X7_ruleNow) rfl rfl rfl hy_X7_ruleNow rfl ⟨Nat.le_of_ble_eq_true rfl, Nat.le_of_ble_eq_true rfl⟩ (Nat.le_of_ble_eq_true rfl) dX10_told_76 ?_
    obtain rfl := Option.some.inj h
    exact z_iret C E dX10_told_79
  replace h := e_f hs1 h
  by_cases hs2 : x1 = (2 : Int32)
  · have h := e_t hs2 h
    refine z_tableIn 80 C dX10_told_1 (by rw [hs2]; decide) (by rw [hs2]; decide) (by rw [hs2]; rfl) (by decide) ?_
    refine z_aload_n C dX10_told_80 rfl ?_
    refine z_get C O_0 0 rfl (fun _ h9 => hsT _ (inX10 _ h9)) (by decide) (hsT _ tw_1_205) dX10_told_81 rfl ?_
    obtain ⟨v84, h84, h⟩ := e_bd h
    refine z_callVi (As := []) C (c_X7_signs l g h84) rfl O_1 rfl (gcV hsT tw_2_5 cw_X7_signs) rfl rfl rfl hy_X7_signs rfl ⟨Nat.le_of_ble_eq_true rfl, Nat.le_of_ble_eq_true rfl⟩ (Nat.le_of_ble_eq_true rfl) dX10_told_84 ?_
    obtain rfl := Option.some.inj h
    exact z_iret C E dX10_told_87
  replace h := e_f hs2 h
  by_cases hs3 : x1 = (3 : Int32)
  · have h := e_t hs3 h
    refine z_tableIn 88 C dX10_told_1 (by rw [hs3]; decide) (by rw [hs3]; decide) (by rw [hs3]; rfl) (by decide) ?_
    refine z_aload_n C dX10_told_88 rfl ?_
    refine z_get C O_0 1 rfl (fun _ h9 => hsT _ (inX10 _ h9)) (by decide) (hsT _ tw_1_206) dX10_told_89 rfl ?_
    refine z_get C O_2 4 rfl (fun _ h9 => hsT _ (inX1 _ h9)) (by decide) (hsT _ tw_1_47) dX10_told_92 rfl ?_
    obtain rfl := Option.some.inj h
    exact z_iret C E dX10_told_95
  replace h := e_f hs3 h
  by_cases hs4 : x1 = (4 : Int32)
  · have h := e_t hs4 h
    refine z_tableIn 96 C dX10_told_1 (by rw [hs4]; decide) (by rw [hs4]; decide) (by rw [hs4]; rfl) (by decide) ?_
    refine z_aload_n C dX10_told_96 rfl ?_
    refine z_get C O_0 1 rfl (fun _ h9 => hsT _ (inX10 _ h9)) (by decide) (hsT _ tw_1_206) dX10_told_97 rfl ?_
    obtain ⟨v100, h100, h⟩ := e_bd h
    refine z_callVi (As := []) C (c_X1_unlikeCoats l g h100) rfl O_2 rfl (gcV hsT tw_2_9 cw_X1_unlikeCoats) rfl rfl rfl hy_X1_unlikeCoats rfl ⟨Nat.le_of_ble_eq_true rfl, Nat.le_of_ble_eq_true rfl⟩ (Nat.le_of_ble_eq_true rfl) dX10_told_100 ?_
    obtain rfl := Option.some.inj h
    exact z_iret C E dX10_told_103
  replace h := e_f hs4 h
  by_cases hs5 : x1 = (5 : Int32)
  · have h := e_t hs5 h
    refine z_tableIn 104 C dX10_told_1 (by rw [hs5]; decide) (by rw [hs5]; decide) (by rw [hs5]; rfl) (by decide) ?_
    refine z_aload_n C dX10_told_104 rfl ?_
    refine z_get C O_0 2 rfl (fun _ h9 => hsT _ (inX10 _ h9)) (by decide) (hsT _ tw_1_207) dX10_told_105 rfl ?_
    obtain ⟨v108, h108, h⟩ := e_bd h
    refine z_callVi (As := []) C (c_X9_spoiledBit l g h108) rfl O_3 rfl (gcV hsT tw_2_32 cw_X9_spoiledBit) rfl rfl rfl hy_X9_spoiledBit rfl ⟨Nat.le_of_ble_eq_true rfl, Nat.le_of_ble_eq_true rfl⟩ (Nat.le_of_ble_eq_true rfl) dX10_told_108 ?_
    obtain rfl := Option.some.inj h
    exact z_iret C E dX10_told_111
  replace h := e_f hs5 h
  by_cases hs6 : x1 = (6 : Int32)
  · have h := e_t hs6 h
    refine z_tableIn 112 C dX10_told_1 (by rw [hs6]; decide) (by rw [hs6]; decide) (by rw [hs6]; rfl) (by decide) ?_
    refine z_aload_n C dX10_told_112 rfl ?_
    refine z_get C O_0 3 rfl (fun _ h9 => hsT _ (inX10 _ h9)) (by decide) (hsT _ tw_1_208) dX10_told_113 rfl ?_
    refine z_aload_n C dX10_told_116 rfl ?_
    refine z_get C O_0 0 rfl (fun _ h9 => hsT _ (inX10 _ h9)) (by decide) (hsT _ tw_1_205) dX10_told_117 rfl ?_
    refine z_aload_n C dX10_told_120 rfl ?_
    refine z_get C O_0 1 rfl (fun _ h9 => hsT _ (inX10 _ h9)) (by decide) (hsT _ tw_1_206) dX10_told_121 rfl ?_
    obtain ⟨v124, h124, h⟩ := e_bd h
    refine z_callVi (As := [.ref (ga g 1), .ref (ga g 2)]) C (c_X8_meantByAll l g h124) rfl O_4 rfl (gcV hsT tw_2_36 cw_X8_meantByAll) rfl rfl rfl hy_X8_meantByAll rfl ⟨Nat.le_of_ble_eq_true rfl, Nat.le_of_ble_eq_true rfl⟩ (Nat.le_of_ble_eq_true rfl) dX10_told_124 ?_
    obtain rfl := Option.some.inj h
    exact z_iret C E dX10_told_127
  replace h := e_f hs6 h
  by_cases hs7 : x1 = (7 : Int32)
  · have h := e_t hs7 h
    refine z_tableIn 128 C dX10_told_1 (by rw [hs7]; decide) (by rw [hs7]; decide) (by rw [hs7]; rfl) (by decide) ?_
    refine z_aload_n C dX10_told_128 rfl ?_
    refine z_get C O_0 3 rfl (fun _ h9 => hsT _ (inX10 _ h9)) (by decide) (hsT _ tw_1_208) dX10_told_129 rfl ?_
    refine z_aload_n C dX10_told_132 rfl ?_
    refine z_get C O_0 0 rfl (fun _ h9 => hsT _ (inX10 _ h9)) (by decide) (hsT _ tw_1_205) dX10_told_133 rfl ?_
    refine z_aload_n C dX10_told_136 rfl ?_
    refine z_get C O_0 1 rfl (fun _ h9 => hsT _ (inX10 _ h9)) (by decide) (hsT _ tw_1_206) dX10_told_137 rfl ?_
    obtain ⟨v140, h140, h⟩ := e_bd h
    refine z_callVi (As := [.ref (ga g 1), .ref (ga g 2)]) C (c_X8_meantBySome l g h140) rfl O_4 rfl (gcV hsT tw_2_55 cw_X8_meantBySome) rfl rfl rfl hy_X8_meantBySome rfl ⟨Nat.le_of_ble_eq_true rfl, Nat.le_of_ble_eq_true rfl⟩ (Nat.le_of_ble_eq_true rfl) dX10_told_140 ?_
    obtain rfl := Option.some.inj h
    exact z_iret C E dX10_told_143
  replace h := e_f hs7 h
  by_cases hs8 : x1 = (8 : Int32)
  · have h := e_t hs8 h
    refine z_tableIn 144 C dX10_told_1 (by rw [hs8]; decide) (by rw [hs8]; decide) (by rw [hs8]; rfl) (by decide) ?_
    refine z_aload_n C dX10_told_144 rfl ?_
    refine z_get C O_0 3 rfl (fun _ h9 => hsT _ (inX10 _ h9)) (by decide) (hsT _ tw_1_208) dX10_told_145 rfl ?_
    refine z_aload_n C dX10_told_148 rfl ?_
    refine z_get C O_0 0 rfl (fun _ h9 => hsT _ (inX10 _ h9)) (by decide) (hsT _ tw_1_205) dX10_told_149 rfl ?_
    refine z_aload_n C dX10_told_152 rfl ?_
    refine z_get C O_0 1 rfl (fun _ h9 => hsT _ (inX10 _ h9)) (by decide) (hsT _ tw_1_206) dX10_told_153 rfl ?_
    obtain ⟨s156, h156, h⟩ := e_bd h
    refine z_callVi (As := [.ref (ga g 1), .ref (ga g 2)]) C (c_X8_likely l g h156) rfl O_4 rfl (gcV hsT tw_2_62 cw_X8_likely) rfl rfl rfl hy_X8_likely rfl ⟨Nat.le_of_ble_eq_true rfl, Nat.le_of_ble_eq_true rfl⟩ (Nat.le_of_ble_eq_true rfl) dX10_told_156 ?_
    obtain rfl := Option.some.inj h
    exact z_iret C E dX10_told_159
  replace h := e_f hs8 h
  by_cases hs9 : x1 = (9 : Int32)
  · have h := e_t hs9 h
    refine z_tableIn 160 C dX10_told_1 (by rw [hs9]; decide) (by rw [hs9]; decide) (by rw [hs9]; rfl) (by decide) ?_
    refine z_aload_n C dX10_told_160 rfl ?_
    refine z_get C O_0 5 rfl (fun _ h9 => hsT _ (inX10 _ h9)) (by decide) (hsT _ tw_1_210) dX10_told_161 rfl ?_
    refine z_get C O_6 3 rfl (fun _ h9 => hsT _ (inX0 _ h9)) (by decide) (hsT _ tw_1_131) dX10_told_164 rfl ?_
    obtain rfl := Option.some.inj h
    exact z_iret C E dX10_told_167
  replace h := e_f hs9 h
  by_cases hs10 : x1 = (10 : Int32)
  · have h := e_t hs10 h
    refine z_tableIn 168 C dX10_told_1 (by rw [hs10]; decide) (by rw [hs10]; decide) (by rw [hs10]; rfl) (by decide) ?_
    refine z_aload_n C dX10_told_168 rfl ?_
    refine z_get C O_0 5 rfl (fun _ h9 => hsT _ (inX10 _ h9)) (by decide) (hsT _ tw_1_210) dX10_told_169 rfl ?_
    refine z_aload_n C dX10_told_172 rfl ?_
    refine z_get C O_0 1 rfl (fun _ h9 => hsT _ (inX10 _ h9)) (by decide) (hsT _ tw_1_206) dX10_told_173 rfl ?_
    obtain ⟨v176, h176, h⟩ := e_bd h
    refine z_callVi (As := [.ref (ga g 2)]) C (c_X0_firstWrong l g h176) rfl O_6 rfl (gcV hsT tw_2_78 cw_X0_firstWrong) rfl rfl rfl hy_X0_firstWrong rfl ⟨Nat.le_of_ble_eq_true rfl, Nat.le_of_ble_eq_true rfl⟩ (Nat.le_of_ble_eq_true rfl) dX10_told_176 ?_
    obtain rfl := Option.some.inj h
    exact z_iret C E dX10_told_179
  replace h := e_f hs10 h
  by_cases hs11 : x1 = (11 : Int32)
  · have h := e_t hs11 h
    refine z_tableIn 180 C dX10_told_1 (by rw [hs11]; decide) (by rw [hs11]; decide) (by rw [hs11]; rfl) (by decide) ?_
    refine z_aload_n C dX10_told_180 rfl ?_
    refine z_get C O_0 6 rfl (fun _ h9 => hsT _ (inX10 _ h9)) (by decide) (hsT _ tw_1_211) dX10_told_181 rfl ?_
    refine z_get C O_7 2 rfl (fun _ h9 => hsT _ (inX5 _ h9)) (by decide) (hsT _ tw_1_166) dX10_told_184 rfl ?_
    obtain rfl := Option.some.inj h
    exact z_iret C E dX10_told_187
  replace h := e_f hs11 h
  refine z_tableOut 188 C dX10_told_1 (sw_out12 hs0 hs1 hs2 hs3 hs4 hs5 hs6 hs7 hs8 hs9 hs10 hs11) (by decide) ?_
  refine z_ldc (v := (-1000000002 : Int32)) C (hsT _ tw_2_83) dX10_told_188 ?_
  obtain rfl := Option.some.inj h
  exact z_iret C E dX10_told_190
theorem hy_X10_person : yX10_person.cls = RX10 ∧ yX10_person.cls ≠ "java/lang/invoke/MethodHandle" ∧ yX10_person.cls ≠ "java/lang/invoke/VarHandle" ∧ (parseMethodDescriptor yX10_person.desc).map (fun d => d.parameters.length) = some 2 := by decide +kernel
def wX10_person : List Cond := Cond.code yX10_person cX10_person 3 (some .int) :: TB
def f_X10_person (M : MM) (x1 : Int32) (x2 : Int32) : Option (Int32 × MM) :=
  (f_X7_has M x1).bind fun (v5 : Int32) =>
  if v5 = 0 then
    some ((-1000000001 : Int32), M)
  else
    if x2 = (0 : Int32) then
      (f_X7_fact M x1 (0 : Int32)).bind fun (v98 : Int32) =>
      some (v98, M)
    else
    if x2 = (1 : Int32) then
      (f_X7_fact M x1 (1 : Int32)).bind fun (v108 : Int32) =>
      some (v108, M)
    else
    if x2 = (2 : Int32) then
      (f_X7_fact M x1 (2 : Int32)).bind fun (v118 : Int32) =>
      some (v118, M)
    else
    if x2 = (3 : Int32) then
      (f_X7_fact M x1 (3 : Int32)).bind fun (v128 : Int32) =>
      some (v128, M)
    else
    if x2 = (4 : Int32) then
      (f_X1_sizeOf M x1).bind fun (v137 : Int32) =>
      some (v137, M)
    else
    if x2 = (5 : Int32) then
      (f_X1_sameAs M x1).bind fun (v146 : Int32) =>
      some (v146, M)
    else
    if x2 = (6 : Int32) then
      (f_X8_like M x1).bind fun (s163 : Int32 × MM) =>
      some (s163.1, s163.2)
    else
    if x2 = (7 : Int32) then
      (f_X7_childrenOf M x1).bind fun (v172 : Int32) =>
      some (v172, M)
    else
    if x2 = (8 : Int32) then
      (f_X7_fact M x1 (4 : Int32)).bind fun (v182 : Int32) =>
      some (v182, M)
    else
    if x2 = (9 : Int32) then
      (f_X7_fact M x1 (5 : Int32)).bind fun (v192 : Int32) =>
      some (v192, M)
    else
    if x2 = (10 : Int32) then
      (f_X7_fact M x1 (6 : Int32)).bind fun (v203 : Int32) =>
      some (v203, M)
    else
    if x2 = (11 : Int32) then
      (f_X7_fact M x1 (7 : Int32)).bind fun (v214 : Int32) =>
      some (v214, M)
    else
    if x2 = (12 : Int32) then
      (f_X9_leastBirth M x1).bind fun (v223 : Int32) =>
      some (v223, M)
    else
    if x2 = (13 : Int32) then
      (f_X9_greatestBirth M x1).bind fun (v232 : Int32) =>
      some (v232, M)
    else
    if x2 = (14 : Int32) then
      (f_X9_leastDeath M x1).bind fun (v241 : Int32) =>
      some (v241, M)
    else
    if x2 = (15 : Int32) then
      (f_X9_greatestDeath M x1).bind fun (v250 : Int32) =>
      some (v250, M)
    else
    some ((-1000000002 : Int32), M)
set_option maxRecDepth 100000 in
set_option maxHeartbeats 4000000 in
theorem c_X10_person (l : Launch) (g : Gx) {M : MM} {x1 : Int32} {x2 : Int32} {r : Int32 × MM} (h : f_X10_person M x1 x2 = some r) : zMi l yX10_person wX10_person (rmm 4 95) [.ref (ga g 0), .int x1, .int x2] g M r.1 r.2 := by
  refine zMi_of .int (by decide) rfl (Nat.le_of_ble_eq_true rfl) rfl rfl ?_
  intro x C E
  show zJ g x M 0 [(0, .ref (ga g 0)), (1, .int x1), (2, .int x2)] []
  unfold f_X10_person at h
  refine z_aload_n C dX10_person_0 rfl ?_
  refine z_get C O_0 0 rfl (fun _ h9 => hsT _ (inX10 _ h9)) (by decide) (hsT _ tw_1_205) dX10_person_1 rfl ?_
  refine z_iload_n C dX10_person_4 rfl ?_
  obtain ⟨v5, h5, h⟩ := e_bd h
  refine z_callVi (As := [.int x1]) C (c_X7_has l g h5) rfl O_1 rfl (gcV hsT tw_2_88 cw_X7_has) rfl rfl rfl hy_X7_has rfl ⟨Nat.le_of_ble_eq_true rfl, Nat.le_of_ble_eq_true rfl⟩ (Nat.le_of_ble_eq_true rfl) dX10_person_5 ?_
  refine z_if_ne 14 C dX10_person_8 (by decide) (fun hc => ?_) (fun hc => ?_)
  · have h := e_f hc h
    refine z_iload_n C dX10_person_14 rfl ?_
    by_cases hs0 : x2 = (0 : Int32)
    · have h := e_t hs0 h
      refine z_tableIn 92 C dX10_person_15 (by rw [hs0]; decide) (by rw [hs0]; decide) (by rw [hs0]; rfl) (by decide) ?_
      refine z_aload_n C dX10_person_92 rfl ?_
      refine z_get C O_0 0 rfl (fun _ h9 => hsT _ (inX10 _ h9)) (by decide) (hsT _ tw_1_205) dX10_person_93 rfl ?_
      refine z_iload_n C dX10_person_96 rfl ?_
      refine z_iconst (0 : Int32) C dX10_person_97 (by decide) ?_
      obtain ⟨v98, h98, h⟩ := e_bd h
      refine z_callVi (As := [.int x1, .int (0 : Int32)]) C (c_X7_fact l g h98) rfl O_1 rfl (gcV hsT tw_2_93 cw_X7_fact) rfl rfl rfl hy_X7_fact rfl ⟨Nat.le_of_ble_eq_true rfl, Nat.le_of_ble_eq_true rfl⟩ (Nat.le_of_ble_eq_true rfl) dX10_person_98 ?_
      obtain rfl := Option.some.inj h
      exact z_iret C E dX10_person_101
    replace h := e_f hs0 h
    by_cases hs1 : x2 = (1 : Int32)
    · have h := e_t hs1 h
      refine z_tableIn 102 C dX10_person_15 (by rw [hs1]; decide) (by rw [hs1]; decide) (by rw [hs1]; rfl) (by decide) ?_
      refine z_aload_n C dX10_person_102 rfl ?_
      refine z_get C O_0 0 rfl (fun _ h9 => hsT _ (inX10 _ h9)) (by decide) (hsT _ tw_1_205) dX10_person_103 rfl ?_
      refine z_iload_n C dX10_person_106 rfl ?_
      refine z_iconst (1 : Int32) C dX10_person_107 (by decide) ?_
      obtain ⟨v108, h108, h⟩ := e_bd h
      refine z_callVi (As := [.int x1, .int (1 : Int32)]) C (c_X7_fact l g h108) rfl O_1 rfl (gcV hsT tw_2_93 cw_X7_fact) rfl rfl rfl hy_X7_fact rfl ⟨Nat.le_of_ble_eq_true rfl, Nat.le_of_ble_eq_true rfl⟩ (Nat.le_of_ble_eq_true rfl) dX10_person_108 ?_
      obtain rfl := Option.some.inj h
      exact z_iret C E dX10_person_111
    replace h := e_f hs1 h
    by_cases hs2 : x2 = (2 : Int32)
    · have h := e_t hs2 h
      refine z_tableIn 112 C dX10_person_15 (by rw [hs2]; decide) (by rw [hs2]; decide) (by rw [hs2]; rfl) (by decide) ?_
      refine z_aload_n C dX10_person_112 rfl ?_
      refine z_get C O_0 0 rfl (fun _ h9 => hsT _ (inX10 _ h9)) (by decide) (hsT _ tw_1_205) dX10_person_113 rfl ?_
      refine z_iload_n C dX10_person_116 rfl ?_
      refine z_iconst (2 : Int32) C dX10_person_117 (by decide) ?_
      obtain ⟨v118, h118, h⟩ := e_bd h
      refine z_callVi (As := [.int x1, .int (2 : Int32)]) C (c_X7_fact l g h118) rfl O_1 rfl (gcV hsT tw_2_93 cw_X7_fact) rfl rfl rfl hy_X7_fact rfl ⟨Nat.le_of_ble_eq_true rfl, Nat.le_of_ble_eq_true rfl⟩ (Nat.le_of_ble_eq_true rfl) dX10_person_118 ?_
      obtain rfl := Option.some.inj h
      exact z_iret C E dX10_person_121
    replace h := e_f hs2 h
    by_cases hs3 : x2 = (3 : Int32)
    · have h := e_t hs3 h
      refine z_tableIn 122 C dX10_person_15 (by rw [hs3]; decide) (by rw [hs3]; decide) (by rw [hs3]; rfl) (by decide) ?_
      refine z_aload_n C dX10_person_122 rfl ?_
      refine z_get C O_0 0 rfl (fun _ h9 => hsT _ (inX10 _ h9)) (by decide) (hsT _ tw_1_205) dX10_person_123 rfl ?_
      refine z_iload_n C dX10_person_126 rfl ?_
      refine z_iconst (3 : Int32) C dX10_person_127 (by decide) ?_
      obtain ⟨v128, h128, h⟩ := e_bd h
      refine z_callVi (As := [.int x1, .int (3 : Int32)]) C (c_X7_fact l g h128) rfl O_1 rfl (gcV hsT tw_2_93 cw_X7_fact) rfl rfl rfl hy_X7_fact rfl ⟨Nat.le_of_ble_eq_true rfl, Nat.le_of_ble_eq_true rfl⟩ (Nat.le_of_ble_eq_true rfl) dX10_person_128 ?_
      obtain rfl := Option.some.inj h
      exact z_iret C E dX10_person_131
    replace h := e_f hs3 h
    by_cases hs4 : x2 = (4 : Int32)
    · have h := e_t hs4 h
      refine z_tableIn 132 C dX10_person_15 (by rw [hs4]; decide) (by rw [hs4]; decide) (by rw [hs4]; rfl) (by decide) ?_
      refine z_aload_n C dX10_person_132 rfl ?_
      refine z_get C O_0 1 rfl (fun _ h9 => hsT _ (inX10 _ h9)) (by decide) (hsT _ tw_1_206) dX10_person_133 rfl ?_
      refine z_iload_n C dX10_person_136 rfl ?_
      obtain ⟨v137, h137, h⟩ := e_bd h
      refine z_callVi (As := [.int x1]) C (c_X1_sizeOf l g h137) rfl O_2 rfl (gcV hsT tw_2_98 cw_X1_sizeOf) rfl rfl rfl hy_X1_sizeOf rfl ⟨Nat.le_of_ble_eq_true rfl, Nat.le_of_ble_eq_true rfl⟩ (Nat.le_of_ble_eq_true rfl) dX10_person_137 ?_
      obtain rfl := Option.some.inj h
      exact z_iret C E dX10_person_140
    replace h := e_f hs4 h
    by_cases hs5 : x2 = (5 : Int32)
    · have h := e_t hs5 h
      refine z_tableIn 141 C dX10_person_15 (by rw [hs5]; decide) (by rw [hs5]; decide) (by rw [hs5]; rfl) (by decide) ?_
      refine z_aload_n C dX10_person_141 rfl ?_
      refine z_get C O_0 1 rfl (fun _ h9 => hsT _ (inX10 _ h9)) (by decide) (hsT _ tw_1_206) dX10_person_142 rfl ?_
      refine z_iload_n C dX10_person_145 rfl ?_
      obtain ⟨v146, h146, h⟩ := e_bd h
      refine z_callVi (As := [.int x1]) C (c_X1_sameAs l g h146) rfl O_2 rfl (gcV hsT tw_2_99 cw_X1_sameAs) rfl rfl rfl hy_X1_sameAs rfl ⟨Nat.le_of_ble_eq_true rfl, Nat.le_of_ble_eq_true rfl⟩ (Nat.le_of_ble_eq_true rfl) dX10_person_146 ?_
      obtain rfl := Option.some.inj h
      exact z_iret C E dX10_person_149
    replace h := e_f hs5 h
    by_cases hs6 : x2 = (6 : Int32)
    · have h := e_t hs6 h
      refine z_tableIn 150 C dX10_person_15 (by rw [hs6]; decide) (by rw [hs6]; decide) (by rw [hs6]; rfl) (by decide) ?_
      refine z_aload_n C dX10_person_150 rfl ?_
      refine z_get C O_0 3 rfl (fun _ h9 => hsT _ (inX10 _ h9)) (by decide) (hsT _ tw_1_208) dX10_person_151 rfl ?_
      refine z_aload_n C dX10_person_154 rfl ?_
      refine z_get C O_0 0 rfl (fun _ h9 => hsT _ (inX10 _ h9)) (by decide) (hsT _ tw_1_205) dX10_person_155 rfl ?_
      refine z_aload_n C dX10_person_158 rfl ?_
      refine z_get C O_0 1 rfl (fun _ h9 => hsT _ (inX10 _ h9)) (by decide) (hsT _ tw_1_206) dX10_person_159 rfl ?_
      refine z_iload_n C dX10_person_162 rfl ?_
      obtain ⟨s163, h163, h⟩ := e_bd h
      refine z_callVi (As := [.ref (ga g 1), .ref (ga g 2), .int x1]) C (c_X8_like l g h163) rfl O_4 rfl (gcV hsT tw_2_100 cw_X8_like) rfl rfl rfl hy_X8_like rfl ⟨Nat.le_of_ble_eq_true rfl, Nat.le_of_ble_eq_true rfl⟩ (Nat.le_of_ble_eq_true rfl) dX10_person_163 ?_
      obtain rfl := Option.some.inj h
      exact z_iret C E dX10_person_166
    replace h := e_f hs6 h
    by_cases hs7 : x2 = (7 : Int32)
    · have h := e_t hs7 h
      refine z_tableIn 167 C dX10_person_15 (by rw [hs7]; decide) (by rw [hs7]; decide) (by rw [hs7]; rfl) (by decide) ?_
      refine z_aload_n C dX10_person_167 rfl ?_
      refine z_get C O_0 0 rfl (fun _ h9 => hsT _ (inX10 _ h9)) (by decide) (hsT _ tw_1_205) dX10_person_168 rfl ?_
      refine z_iload_n C dX10_person_171 rfl ?_
      obtain ⟨v172, h172, h⟩ := e_bd h
      refine z_callVi (As := [.int x1]) C (c_X7_childrenOf l g h172) rfl O_1 rfl (gcV hsT tw_2_101 cw_X7_childrenOf) rfl rfl rfl hy_X7_childrenOf rfl ⟨Nat.le_of_ble_eq_true rfl, Nat.le_of_ble_eq_true rfl⟩ (Nat.le_of_ble_eq_true rfl) dX10_person_172 ?_
      obtain rfl := Option.some.inj h
      exact z_iret C E dX10_person_175
    replace h := e_f hs7 h
    by_cases hs8 : x2 = (8 : Int32)
    · have h := e_t hs8 h
      refine z_tableIn 176 C dX10_person_15 (by rw [hs8]; decide) (by rw [hs8]; decide) (by rw [hs8]; rfl) (by decide) ?_
      refine z_aload_n C dX10_person_176 rfl ?_
      refine z_get C O_0 0 rfl (fun _ h9 => hsT _ (inX10 _ h9)) (by decide) (hsT _ tw_1_205) dX10_person_177 rfl ?_
      refine z_iload_n C dX10_person_180 rfl ?_
      refine z_iconst (4 : Int32) C dX10_person_181 (by decide) ?_
      obtain ⟨v182, h182, h⟩ := e_bd h
      refine z_callVi (As := [.int x1, .int (4 : Int32)]) C (c_X7_fact l g h182) rfl O_1 rfl (gcV hsT tw_2_93 cw_X7_fact) rfl rfl rfl hy_X7_fact rfl ⟨Nat.le_of_ble_eq_true rfl, Nat.le_of_ble_eq_true rfl⟩ (Nat.le_of_ble_eq_true rfl) dX10_person_182 ?_
      obtain rfl := Option.some.inj h
      exact z_iret C E dX10_person_185
    replace h := e_f hs8 h
    by_cases hs9 : x2 = (9 : Int32)
    · have h := e_t hs9 h
      refine z_tableIn 186 C dX10_person_15 (by rw [hs9]; decide) (by rw [hs9]; decide) (by rw [hs9]; rfl) (by decide) ?_
      refine z_aload_n C dX10_person_186 rfl ?_
      refine z_get C O_0 0 rfl (fun _ h9 => hsT _ (inX10 _ h9)) (by decide) (hsT _ tw_1_205) dX10_person_187 rfl ?_
      refine z_iload_n C dX10_person_190 rfl ?_
      refine z_iconst (5 : Int32) C dX10_person_191 (by decide) ?_
      obtain ⟨v192, h192, h⟩ := e_bd h
      refine z_callVi (As := [.int x1, .int (5 : Int32)]) C (c_X7_fact l g h192) rfl O_1 rfl (gcV hsT tw_2_93 cw_X7_fact) rfl rfl rfl hy_X7_fact rfl ⟨Nat.le_of_ble_eq_true rfl, Nat.le_of_ble_eq_true rfl⟩ (Nat.le_of_ble_eq_true rfl) dX10_person_192 ?_
      obtain rfl := Option.some.inj h
      exact z_iret C E dX10_person_195
    replace h := e_f hs9 h
    by_cases hs10 : x2 = (10 : Int32)
    · have h := e_t hs10 h
      refine z_tableIn 196 C dX10_person_15 (by rw [hs10]; decide) (by rw [hs10]; decide) (by rw [hs10]; rfl) (by decide) ?_
      refine z_aload_n C dX10_person_196 rfl ?_
      refine z_get C O_0 0 rfl (fun _ h9 => hsT _ (inX10 _ h9)) (by decide) (hsT _ tw_1_205) dX10_person_197 rfl ?_
      refine z_iload_n C dX10_person_200 rfl ?_
      refine z_bipush (6 : Int32) C dX10_person_201 (by decide) ?_
      obtain ⟨v203, h203, h⟩ := e_bd h
      refine z_callVi (As := [.int x1, .int (6 : Int32)]) C (c_X7_fact l g h203) rfl O_1 rfl (gcV hsT tw_2_93 cw_X7_fact) rfl rfl rfl hy_X7_fact rfl ⟨Nat.le_of_ble_eq_true rfl, Nat.le_of_ble_eq_true rfl⟩ (Nat.le_of_ble_eq_true rfl) dX10_person_203 ?_
      obtain rfl := Option.some.inj h
      exact z_iret C E dX10_person_206
    replace h := e_f hs10 h
    by_cases hs11 : x2 = (11 : Int32)
    · have h := e_t hs11 h
      refine z_tableIn 207 C dX10_person_15 (by rw [hs11]; decide) (by rw [hs11]; decide) (by rw [hs11]; rfl) (by decide) ?_
      refine z_aload_n C dX10_person_207 rfl ?_
      refine z_get C O_0 0 rfl (fun _ h9 => hsT _ (inX10 _ h9)) (by decide) (hsT _ tw_1_205) dX10_person_208 rfl ?_
      refine z_iload_n C dX10_person_211 rfl ?_
      refine z_bipush (7 : Int32) C dX10_person_212 (by decide) ?_
      obtain ⟨v214, h214, h⟩ := e_bd h
      refine z_callVi (As := [.int x1, .int (7 : Int32)]) C (c_X7_fact l g h214) rfl O_1 rfl (gcV hsT tw_2_93 cw_X7_fact) rfl rfl rfl hy_X7_fact rfl ⟨Nat.le_of_ble_eq_true rfl, Nat.le_of_ble_eq_true rfl⟩ (Nat.le_of_ble_eq_true rfl) dX10_person_214 ?_
      obtain rfl := Option.some.inj h
      exact z_iret C E dX10_person_217
    replace h := e_f hs11 h
    by_cases hs12 : x2 = (12 : Int32)
    · have h := e_t hs12 h
      refine z_tableIn 218 C dX10_person_15 (by rw [hs12]; decide) (by rw [hs12]; decide) (by rw [hs12]; rfl) (by decide) ?_
      refine z_aload_n C dX10_person_218 rfl ?_
      refine z_get C O_0 2 rfl (fun _ h9 => hsT _ (inX10 _ h9)) (by decide) (hsT _ tw_1_207) dX10_person_219 rfl ?_
      refine z_iload_n C dX10_person_222 rfl ?_
      obtain ⟨v223, h223, h⟩ := e_bd h
      refine z_callVi (As := [.int x1]) C (c_X9_leastBirth l g h223) rfl O_3 rfl (gcV hsT tw_2_107 cw_X9_leastBirth) rfl rfl rfl hy_X9_leastBirth rfl ⟨Nat.le_of_ble_eq_true rfl, Nat.le_of_ble_eq_true rfl⟩ (Nat.le_of_ble_eq_true rfl) dX10_person_223 ?_
      obtain rfl := Option.some.inj h
      exact z_iret C E dX10_person_226
    replace h := e_f hs12 h
    by_cases hs13 : x2 = (13 : Int32)
    · have h := e_t hs13 h
      refine z_tableIn 227 C dX10_person_15 (by rw [hs13]; decide) (by rw [hs13]; decide) (by rw [hs13]; rfl) (by decide) ?_
      refine z_aload_n C dX10_person_227 rfl ?_
      refine z_get C O_0 2 rfl (fun _ h9 => hsT _ (inX10 _ h9)) (by decide) (hsT _ tw_1_207) dX10_person_228 rfl ?_
      refine z_iload_n C dX10_person_231 rfl ?_
      obtain ⟨v232, h232, h⟩ := e_bd h
      refine z_callVi (As := [.int x1]) C (c_X9_greatestBirth l g h232) rfl O_3 rfl (gcV hsT tw_2_126 cw_X9_greatestBirth) rfl rfl rfl hy_X9_greatestBirth rfl ⟨Nat.le_of_ble_eq_true rfl, Nat.le_of_ble_eq_true rfl⟩ (Nat.le_of_ble_eq_true rfl) dX10_person_232 ?_
      obtain rfl := Option.some.inj h
      exact z_iret C E dX10_person_235
    replace h := e_f hs13 h
    by_cases hs14 : x2 = (14 : Int32)
    · have h := e_t hs14 h
      refine z_tableIn 236 C dX10_person_15 (by rw [hs14]; decide) (by rw [hs14]; decide) (by rw [hs14]; rfl) (by decide) ?_
      refine z_aload_n C dX10_person_236 rfl ?_
      refine z_get C O_0 2 rfl (fun _ h9 => hsT _ (inX10 _ h9)) (by decide) (hsT _ tw_1_207) dX10_person_237 rfl ?_
      refine z_iload_n C dX10_person_240 rfl ?_
      obtain ⟨v241, h241, h⟩ := e_bd h
      refine z_callVi (As := [.int x1]) C (c_X9_leastDeath l g h241) rfl O_3 rfl (gcV hsT tw_2_134 cw_X9_leastDeath) rfl rfl rfl hy_X9_leastDeath rfl ⟨Nat.le_of_ble_eq_true rfl, Nat.le_of_ble_eq_true rfl⟩ (Nat.le_of_ble_eq_true rfl) dX10_person_241 ?_
      obtain rfl := Option.some.inj h
      exact z_iret C E dX10_person_244
    replace h := e_f hs14 h
    by_cases hs15 : x2 = (15 : Int32)
    · have h := e_t hs15 h
      refine z_tableIn 245 C dX10_person_15 (by rw [hs15]; decide) (by rw [hs15]; decide) (by rw [hs15]; rfl) (by decide) ?_
      refine z_aload_n C dX10_person_245 rfl ?_
      refine z_get C O_0 2 rfl (fun _ h9 => hsT _ (inX10 _ h9)) (by decide) (hsT _ tw_1_207) dX10_person_246 rfl ?_
      refine z_iload_n C dX10_person_249 rfl ?_
      obtain ⟨v250, h250, h⟩ := e_bd h
      refine z_callVi (As := [.int x1]) C (c_X9_greatestDeath l g h250) rfl O_3 rfl (gcV hsT tw_2_141 cw_X9_greatestDeath) rfl rfl rfl hy_X9_greatestDeath rfl ⟨Nat.le_of_ble_eq_true rfl, Nat.le_of_ble_eq_true rfl⟩ (Nat.le_of_ble_eq_true rfl) dX10_person_250 ?_
      obtain rfl := Option.some.inj h
      exact z_iret C E dX10_person_253
    replace h := e_f hs15 h
    refine z_tableOut 254 C dX10_person_15 (sw_out16 hs0 hs1 hs2 hs3 hs4 hs5 hs6 hs7 hs8 hs9 hs10 hs11 hs12 hs13 hs14 hs15) (by decide) ?_
    refine z_ldc (v := (-1000000002 : Int32)) C (hsT _ tw_2_83) dX10_person_254 ?_
    obtain rfl := Option.some.inj h
    exact z_iret C E dX10_person_256
  · have h := e_t hc h
    refine z_ldc (v := (-1000000001 : Int32)) C (hsT _ tw_2_92) dX10_person_11 ?_
    obtain rfl := Option.some.inj h
    exact z_iret C E dX10_person_13
theorem hy_X10_quarter : yX10_quarter.cls = RX10 ∧ yX10_quarter.cls ≠ "java/lang/invoke/MethodHandle" ∧ yX10_quarter.cls ≠ "java/lang/invoke/VarHandle" ∧ (parseMethodDescriptor yX10_quarter.desc).map (fun d => d.parameters.length) = some 3 := by decide +kernel
def wX10_quarter : List Cond := Cond.code yX10_quarter cX10_quarter 4 (some .int) :: TB
def f_X10_quarter (M : MM) (x1 : Int32) (x2 : Int32) (x3 : Int32) : Option Int32 :=
  (f_X7_has M x1).bind fun (v5 : Int32) =>
  if v5 = 0 then
    some (-1000000001 : Int32)
  else
    if x3 = 0 then
      (f_X1_armsAt M x1 x2).bind fun (v24 : Int32) =>
      some v24
    else
      if x3 = (1 : Int32) then
        (f_X1_throughAt M x1 x2).bind fun (v39 : Int32) =>
        some v39
      else
        some (-1000000002 : Int32)
set_option maxRecDepth 100000 in
set_option maxHeartbeats 4000000 in
theorem c_X10_quarter (l : Launch) (g : Gx) {M : MM} {x1 : Int32} {x2 : Int32} {x3 : Int32} {r : Int32} (h : f_X10_quarter M x1 x2 x3 = some r) : zMi l yX10_quarter wX10_quarter (rmm 2 43) [.ref (ga g 0), .int x1, .int x2, .int x3] g M r M := by
  refine zMi_of .int (by decide) rfl (Nat.le_of_ble_eq_true rfl) rfl rfl ?_
  intro x C E
  show zJ g x M 0 [(0, .ref (ga g 0)), (1, .int x1), (2, .int x2), (3, .int x3)] []
  unfold f_X10_quarter at h
  refine z_aload_n C dX10_quarter_0 rfl ?_
  refine z_get C O_0 0 rfl (fun _ h9 => hsT _ (inX10 _ h9)) (by decide) (hsT _ tw_1_205) dX10_quarter_1 rfl ?_
  refine z_iload_n C dX10_quarter_4 rfl ?_
  obtain ⟨v5, h5, h⟩ := e_bd h
  refine z_callVi (As := [.int x1]) C (c_X7_has l g h5) rfl O_1 rfl (gcV hsT tw_2_88 cw_X7_has) rfl rfl rfl hy_X7_has rfl ⟨Nat.le_of_ble_eq_true rfl, Nat.le_of_ble_eq_true rfl⟩ (Nat.le_of_ble_eq_true rfl) dX10_quarter_5 ?_
  refine z_if_ne 14 C dX10_quarter_8 (by decide) (fun hc => ?_) (fun hc => ?_)
  · have h := e_f hc h
    refine z_iload_n C dX10_quarter_14 rfl ?_
    refine z_if_ne 28 C dX10_quarter_15 (by decide) (fun hc => ?_) (fun hc => ?_)
    · have h := e_f hc h
      refine z_iload_n C dX10_quarter_28 rfl ?_
      refine z_iconst (1 : Int32) C dX10_quarter_29 (by decide) ?_
      refine z_icmp_ne 43 C dX10_quarter_30 (by decide) (fun hc => ?_) (fun hc => ?_)
      · have h := e_f hc h
        refine z_ldc (v := (-1000000002 : Int32)) C (hsT _ tw_2_83) dX10_quarter_43 ?_
        obtain rfl := Option.some.inj h
        exact z_iret C E dX10_quarter_45
      · have h := e_t hc h
        refine z_aload_n C dX10_quarter_33 rfl ?_
        refine z_get C O_0 1 rfl (fun _ h9 => hsT _ (inX10 _ h9)) (by decide) (hsT _ tw_1_206) dX10_quarter_34 rfl ?_
        refine z_iload_n C dX10_quarter_37 rfl ?_
        refine z_iload_n C dX10_quarter_38 rfl ?_
        obtain ⟨v39, h39, h⟩ := e_bd h
        refine z_callVi (As := [.int x1, .int x2]) C (c_X1_throughAt l g h39) rfl O_2 rfl (gcV hsT tw_2_150 cw_X1_throughAt) rfl rfl rfl hy_X1_throughAt rfl ⟨Nat.le_of_ble_eq_true rfl, Nat.le_of_ble_eq_true rfl⟩ (Nat.le_of_ble_eq_true rfl) dX10_quarter_39 ?_
        obtain rfl := Option.some.inj h
        exact z_iret C E dX10_quarter_42
    · have h := e_t hc h
      refine z_aload_n C dX10_quarter_18 rfl ?_
      refine z_get C O_0 1 rfl (fun _ h9 => hsT _ (inX10 _ h9)) (by decide) (hsT _ tw_1_206) dX10_quarter_19 rfl ?_
      refine z_iload_n C dX10_quarter_22 rfl ?_
      refine z_iload_n C dX10_quarter_23 rfl ?_
      obtain ⟨v24, h24, h⟩ := e_bd h
      refine z_callVi (As := [.int x1, .int x2]) C (c_X1_armsAt l g h24) rfl O_2 rfl (gcV hsT tw_2_149 cw_X1_armsAt) rfl rfl rfl hy_X1_armsAt rfl ⟨Nat.le_of_ble_eq_true rfl, Nat.le_of_ble_eq_true rfl⟩ (Nat.le_of_ble_eq_true rfl) dX10_quarter_24 ?_
      obtain rfl := Option.some.inj h
      exact z_iret C E dX10_quarter_27
  · have h := e_t hc h
    refine z_ldc (v := (-1000000001 : Int32)) C (hsT _ tw_2_92) dX10_quarter_11 ?_
    obtain rfl := Option.some.inj h
    exact z_iret C E dX10_quarter_13
theorem hy_X10_kin : yX10_kin.cls = RX10 ∧ yX10_kin.cls ≠ "java/lang/invoke/MethodHandle" ∧ yX10_kin.cls ≠ "java/lang/invoke/VarHandle" ∧ (parseMethodDescriptor yX10_kin.desc).map (fun d => d.parameters.length) = some 3 := by decide +kernel
def wX10_kin : List Cond := Cond.code yX10_kin cX10_kin 4 (some .int) :: TB
def f_X10_kin (M : MM) (x1 : Int32) (x2 : Int32) (x3 : Int32) : Option (Int32 × MM) :=
  (f_X7_has M x1).bind fun (v5 : Int32) =>
  if v5 = 0 then
    some ((-1000000001 : Int32), M)
  else
    (f_X7_has M x2).bind fun (v16 : Int32) =>
    if v16 = 0 then
      some ((-1000000001 : Int32), M)
    else
      if x3 < 0 then
        some ((-1000000002 : Int32), M)
      else
        if x3 ≤ (1 : Int32) then
          (f_X4_seek M x1 x2).bind fun (M47 : MM) =>
          (if x3 = 0 then
            some (M47 5 2)
          else
            some (M47 5 3)
          ).bind fun (j51 : Int32) =>
            some (j51, M47)
        else
          some ((-1000000002 : Int32), M)
set_option maxRecDepth 100000 in
set_option maxHeartbeats 4000000 in
theorem c_X10_kin (l : Launch) (g : Gx) {M : MM} {x1 : Int32} {x2 : Int32} {x3 : Int32} {r : Int32 × MM} (h : f_X10_kin M x1 x2 x3 = some r) : zMi l yX10_kin wX10_kin (rmm 4 91) [.ref (ga g 0), .int x1, .int x2, .int x3] g M r.1 r.2 := by
  refine zMi_of .int (by decide) rfl (Nat.le_of_ble_eq_true rfl) rfl rfl ?_
  intro x C E
  show zJ g x M 0 [(0, .ref (ga g 0)), (1, .int x1), (2, .int x2), (3, .int x3)] []
  unfold f_X10_kin at h
  refine z_aload_n C dX10_kin_0 rfl ?_
  refine z_get C O_0 0 rfl (fun _ h9 => hsT _ (inX10 _ h9)) (by decide) (hsT _ tw_1_205) dX10_kin_1 rfl ?_
  refine z_iload_n C dX10_kin_4 rfl ?_
  obtain ⟨v5, h5, h⟩ := e_bd h
  refine z_callVi (As := [.int x1]) C (c_X7_has l g h5) rfl O_1 rfl (gcV hsT tw_2_88 cw_X7_has) rfl rfl rfl hy_X7_has rfl ⟨Nat.le_of_ble_eq_true rfl, Nat.le_of_ble_eq_true rfl⟩ (Nat.le_of_ble_eq_true rfl) dX10_kin_5 ?_
  refine z_if_eq 22 C dX10_kin_8 (by decide) (fun hc => ?_) (fun hc => ?_)
  · have h := e_t hc h
    refine z_ldc (v := (-1000000001 : Int32)) C (hsT _ tw_2_92) dX10_kin_22 ?_
    obtain rfl := Option.some.inj h
    exact z_iret C E dX10_kin_24
  · have h := e_f hc h
    refine z_aload_n C dX10_kin_11 rfl ?_
    refine z_get C O_0 0 rfl (fun _ h9 => hsT _ (inX10 _ h9)) (by decide) (hsT _ tw_1_205) dX10_kin_12 rfl ?_
    refine z_iload_n C dX10_kin_15 rfl ?_
    obtain ⟨v16, h16, h⟩ := e_bd h
    refine z_callVi (As := [.int x2]) C (c_X7_has l g h16) rfl O_1 rfl (gcV hsT tw_2_88 cw_X7_has) rfl rfl rfl hy_X7_has rfl ⟨Nat.le_of_ble_eq_true rfl, Nat.le_of_ble_eq_true rfl⟩ (Nat.le_of_ble_eq_true rfl) dX10_kin_16 ?_
    refine z_if_ne 25 C dX10_kin_19 (by decide) (fun hc => ?_) (fun hc => ?_)
    · have h := e_f hc h
      refine z_iload_n C dX10_kin_25 rfl ?_
      refine z_if_lt 34 C dX10_kin_26 (by decide) (fun hc => ?_) (fun hc => ?_)
      · have h := e_t hc h
        refine z_ldc (v := (-1000000002 : Int32)) C (hsT _ tw_2_83) dX10_kin_34 ?_
        obtain rfl := Option.some.inj h
        exact z_iret C E dX10_kin_36
      · have h := e_f hc h
        refine z_iload_n C dX10_kin_29 rfl ?_
        refine z_iconst (1 : Int32) C dX10_kin_30 (by decide) ?_
        refine z_icmp_le 37 C dX10_kin_31 (by decide) (fun hc => ?_) (fun hc => ?_)
        · have h := e_t hc h
          refine z_aload_n C dX10_kin_37 rfl ?_
          refine z_get C O_0 4 rfl (fun _ h9 => hsT _ (inX10 _ h9)) (by decide) (hsT _ tw_1_209) dX10_kin_38 rfl ?_
          refine z_aload_n C dX10_kin_41 rfl ?_
          refine z_get C O_0 0 rfl (fun _ h9 => hsT _ (inX10 _ h9)) (by decide) (hsT _ tw_1_205) dX10_kin_42 rfl ?_
          refine z_iload_n C dX10_kin_45 rfl ?_
          refine z_iload_n C dX10_kin_46 rfl ?_
          obtain ⟨M47, h47, h⟩ := e_bd h
          refine z_callVv (As := [.ref (ga g 1), .int x1, .int x2]) C (c_X4_seek l g h47) rfl O_5 rfl (gcV hsT tw_2_158 cw_X4_seek) rfl rfl rfl hy_X4_seek rfl ⟨Nat.le_of_ble_eq_true rfl, Nat.le_of_ble_eq_true rfl⟩ (Nat.le_of_ble_eq_true rfl) dX10_kin_47 ?_
          refine z_iload_n C dX10_kin_50 rfl ?_
          obtain ⟨j51, h51, h⟩ := e_bd h
          have hj51 : zJ g x M47 71 [] [.int j51] := by
            obtain rfl := Option.some.inj h
            exact z_iret C E dX10_kin_71
          have h := h51
          refine z_if_ne 64 C dX10_kin_51 (by decide) (fun hc => ?_) (fun hc => ?_)
          · have h := e_f hc h
            refine z_aload_n C dX10_kin_64 rfl ?_
            refine z_get C O_0 4 rfl (fun _ h9 => hsT _ (inX10 _ h9)) (by decide) (hsT _ tw_1_209) dX10_kin_65 rfl ?_
            refine z_get C O_5 3 rfl (fun _ h9 => hsT _ (inX4 _ h9)) (by decide) (hsT _ tw_1_111) dX10_kin_68 rfl ?_
            obtain rfl := Option.some.inj h
            exact z_sub [] rfl hj51
          · have h := e_t hc h
            refine z_aload_n C dX10_kin_54 rfl ?_
            refine z_get C O_0 4 rfl (fun _ h9 => hsT _ (inX10 _ h9)) (by decide) (hsT _ tw_1_209) dX10_kin_55 rfl ?_
            refine z_get C O_5 2 rfl (fun _ h9 => hsT _ (inX4 _ h9)) (by decide) (hsT _ tw_1_109) dX10_kin_58 rfl ?_
            refine z_goto 71 C dX10_kin_61 (by decide) ?_
            obtain rfl := Option.some.inj h
            exact z_sub [] rfl hj51
        · have h := e_f hc h
          refine z_ldc (v := (-1000000002 : Int32)) C (hsT _ tw_2_83) dX10_kin_34 ?_
          obtain rfl := Option.some.inj h
          exact z_iret C E dX10_kin_36
    · have h := e_t hc h
      refine z_ldc (v := (-1000000001 : Int32)) C (hsT _ tw_2_92) dX10_kin_22 ?_
      obtain rfl := Option.some.inj h
      exact z_iret C E dX10_kin_24
theorem hy_X10_would : yX10_would.cls = RX10 ∧ yX10_would.cls ≠ "java/lang/invoke/MethodHandle" ∧ yX10_would.cls ≠ "java/lang/invoke/VarHandle" ∧ (parseMethodDescriptor yX10_would.desc).map (fun d => d.parameters.length) = some 2 := by decide +kernel
def wX10_would : List Cond := Cond.code yX10_would cX10_would 3 (some .int) :: TB
def f_X10_would (M : MM) (x1 : Int32) (x2 : Int32) : Option (Int32 × MM) :=
  (f_X7_has M x1).bind fun (v5 : Int32) =>
  if v5 = 0 then
    some ((-1000000001 : Int32), M)
  else
    (f_X7_has M x2).bind fun (v16 : Int32) =>
    if v16 = 0 then
      some ((-1000000001 : Int32), M)
    else
      if x1 = x2 then
        some ((-1000000001 : Int32), M)
      else
        (f_X7_isMan M x1).bind fun (v35 : Int32) =>
        if v35 = 0 then
          some ((-1000000003 : Int32), M)
        else
          (f_X7_isWoman M x2).bind fun (v46 : Int32) =>
          if v46 = 0 then
            some ((-1000000003 : Int32), M)
          else
            (f_X1_sizeForChild M x1 x2).bind fun (s65 : Int32 × MM) =>
            some (s65.1, s65.2)
set_option maxRecDepth 100000 in
set_option maxHeartbeats 4000000 in
theorem c_X10_would (l : Launch) (g : Gx) {M : MM} {x1 : Int32} {x2 : Int32} {r : Int32 × MM} (h : f_X10_would M x1 x2 = some r) : zMi l yX10_would wX10_would (rmm 5 116) [.ref (ga g 0), .int x1, .int x2] g M r.1 r.2 := by
  refine zMi_of .int (by decide) rfl (Nat.le_of_ble_eq_true rfl) rfl rfl ?_
  intro x C E
  show zJ g x M 0 [(0, .ref (ga g 0)), (1, .int x1), (2, .int x2)] []
  unfold f_X10_would at h
  refine z_aload_n C dX10_would_0 rfl ?_
  refine z_get C O_0 0 rfl (fun _ h9 => hsT _ (inX10 _ h9)) (by decide) (hsT _ tw_1_205) dX10_would_1 rfl ?_
  refine z_iload_n C dX10_would_4 rfl ?_
  obtain ⟨v5, h5, h⟩ := e_bd h
  refine z_callVi (As := [.int x1]) C (c_X7_has l g h5) rfl O_1 rfl (gcV hsT tw_2_88 cw_X7_has) rfl rfl rfl hy_X7_has rfl ⟨Nat.le_of_ble_eq_true rfl, Nat.le_of_ble_eq_true rfl⟩ (Nat.le_of_ble_eq_true rfl) dX10_would_5 ?_
  refine z_if_eq 27 C dX10_would_8 (by decide) (fun hc => ?_) (fun hc => ?_)
  · have h := e_t hc h
    refine z_ldc (v := (-1000000001 : Int32)) C (hsT _ tw_2_92) dX10_would_27 ?_
    obtain rfl := Option.some.inj h
    exact z_iret C E dX10_would_29
  · have h := e_f hc h
    refine z_aload_n C dX10_would_11 rfl ?_
    refine z_get C O_0 0 rfl (fun _ h9 => hsT _ (inX10 _ h9)) (by decide) (hsT _ tw_1_205) dX10_would_12 rfl ?_
    refine z_iload_n C dX10_would_15 rfl ?_
    obtain ⟨v16, h16, h⟩ := e_bd h
    refine z_callVi (As := [.int x2]) C (c_X7_has l g h16) rfl O_1 rfl (gcV hsT tw_2_88 cw_X7_has) rfl rfl rfl hy_X7_has rfl ⟨Nat.le_of_ble_eq_true rfl, Nat.le_of_ble_eq_true rfl⟩ (Nat.le_of_ble_eq_true rfl) dX10_would_16 ?_
    refine z_if_eq 27 C dX10_would_19 (by decide) (fun hc => ?_) (fun hc => ?_)
    · have h := e_t hc h
      refine z_ldc (v := (-1000000001 : Int32)) C (hsT _ tw_2_92) dX10_would_27 ?_
      obtain rfl := Option.some.inj h
      exact z_iret C E dX10_would_29
    · have h := e_f hc h
      refine z_iload_n C dX10_would_22 rfl ?_
      refine z_iload_n C dX10_would_23 rfl ?_
      refine z_icmp_ne 30 C dX10_would_24 (by decide) (fun hc => ?_) (fun hc => ?_)
      · have h := e_f hc h
        refine z_aload_n C dX10_would_30 rfl ?_
        refine z_get C O_0 0 rfl (fun _ h9 => hsT _ (inX10 _ h9)) (by decide) (hsT _ tw_1_205) dX10_would_31 rfl ?_
        refine z_iload_n C dX10_would_34 rfl ?_
        obtain ⟨v35, h35, h⟩ := e_bd h
        refine z_callVi (As := [.int x1]) C (c_X7_isMan l g h35) rfl O_1 rfl (gcV hsT tw_2_175 cw_X7_isMan) rfl rfl rfl hy_X7_isMan rfl ⟨Nat.le_of_ble_eq_true rfl, Nat.le_of_ble_eq_true rfl⟩ (Nat.le_of_ble_eq_true rfl) dX10_would_35 ?_
        refine z_if_eq 52 C dX10_would_38 (by decide) (fun hc => ?_) (fun hc => ?_)
        · have h := e_t hc h
          refine z_ldc (v := (-1000000003 : Int32)) C (hsT _ tw_2_183) dX10_would_52 ?_
          obtain rfl := Option.some.inj h
          exact z_iret C E dX10_would_54
        · have h := e_f hc h
          refine z_aload_n C dX10_would_41 rfl ?_
          refine z_get C O_0 0 rfl (fun _ h9 => hsT _ (inX10 _ h9)) (by decide) (hsT _ tw_1_205) dX10_would_42 rfl ?_
          refine z_iload_n C dX10_would_45 rfl ?_
          obtain ⟨v46, h46, h⟩ := e_bd h
          refine z_callVi (As := [.int x2]) C (c_X7_isWoman l g h46) rfl O_1 rfl (gcV hsT tw_2_179 cw_X7_isWoman) rfl rfl rfl hy_X7_isWoman rfl ⟨Nat.le_of_ble_eq_true rfl, Nat.le_of_ble_eq_true rfl⟩ (Nat.le_of_ble_eq_true rfl) dX10_would_46 ?_
          refine z_if_ne 55 C dX10_would_49 (by decide) (fun hc => ?_) (fun hc => ?_)
          · have h := e_f hc h
            refine z_aload_n C dX10_would_55 rfl ?_
            refine z_get C O_0 1 rfl (fun _ h9 => hsT _ (inX10 _ h9)) (by decide) (hsT _ tw_1_206) dX10_would_56 rfl ?_
            refine z_aload_n C dX10_would_59 rfl ?_
            refine z_get C O_0 0 rfl (fun _ h9 => hsT _ (inX10 _ h9)) (by decide) (hsT _ tw_1_205) dX10_would_60 rfl ?_
            refine z_iload_n C dX10_would_63 rfl ?_
            refine z_iload_n C dX10_would_64 rfl ?_
            obtain ⟨s65, h65, h⟩ := e_bd h
            refine z_callVi (As := [.ref (ga g 1), .int x1, .int x2]) C (c_X1_sizeForChild l g h65) rfl O_2 rfl (gcV hsT tw_2_184 cw_X1_sizeForChild) rfl rfl rfl hy_X1_sizeForChild rfl ⟨Nat.le_of_ble_eq_true rfl, Nat.le_of_ble_eq_true rfl⟩ (Nat.le_of_ble_eq_true rfl) dX10_would_65 ?_
            obtain rfl := Option.some.inj h
            exact z_iret C E dX10_would_68
          · have h := e_t hc h
            refine z_ldc (v := (-1000000003 : Int32)) C (hsT _ tw_2_183) dX10_would_52 ?_
            obtain rfl := Option.some.inj h
            exact z_iret C E dX10_would_54
      · have h := e_t hc h
        refine z_ldc (v := (-1000000001 : Int32)) C (hsT _ tw_2_92) dX10_would_27 ?_
        obtain rfl := Option.some.inj h
        exact z_iret C E dX10_would_29
theorem hy_X10_areYears : yX10_areYears.cls ≠ "java/lang/invoke/MethodHandle" ∧ yX10_areYears.cls ≠ "java/lang/invoke/VarHandle" ∧ (parseMethodDescriptor yX10_areYears.desc).map (fun d => d.parameters.length) = some 2 := by decide +kernel
def wX10_areYears : List Cond := Cond.code yX10_areYears cX10_areYears 2 (some .boolean) :: TB
def f_X10_areYears (M : MM) (x0 : Int32) (x1 : Int32) : Option Int32 :=
  (if x0 < 0 then
    some (0 : Int32)
  else
    if x1 < x0 then
      some (0 : Int32)
    else
      if (999 : Int32) < x1 then
        some (0 : Int32)
      else
        some (1 : Int32)
  ).bind fun (j1 : Int32) =>
    z_rzp j1
set_option maxRecDepth 100000 in
set_option maxHeartbeats 4000000 in
theorem c_X10_areYears (l : Launch) (g : Gx) {M : MM} {x0 : Int32} {x1 : Int32} {r : Int32} (h : f_X10_areYears M x0 x1 = some r) : zMi l yX10_areYears wX10_areYears (rmm 0 0) [.int x0, .int x1] g M r M := by
  refine zMi_of .boolean (by decide) rfl (Nat.le_of_ble_eq_true rfl) rfl rfl ?_
  intro x C E
  show zJ g x M 0 [(0, .int x0), (1, .int x1)] []
  unfold f_X10_areYears at h
  refine z_iload_n C dX10_areYears_0 rfl ?_
  obtain ⟨j1, h1, h⟩ := e_bd h
  have hj1 : zJ g x M 21 [] [.int j1] := by
    obtain ⟨hz, rfl⟩ := e_rzp h
    exact z_zret C E hz dX10_areYears_21
  have h := h1
  refine z_if_lt 20 C dX10_areYears_1 (by decide) (fun hc => ?_) (fun hc => ?_)
  · have h := e_t hc h
    refine z_iconst (0 : Int32) C dX10_areYears_20 (by decide) ?_
    obtain rfl := Option.some.inj h
    exact z_sub [] rfl hj1
  · have h := e_f hc h
    refine z_iload_n C dX10_areYears_4 rfl ?_
    refine z_iload_n C dX10_areYears_5 rfl ?_
    refine z_icmp_gt 20 C dX10_areYears_6 (by decide) (fun hc => ?_) (fun hc => ?_)
    · have h := e_t hc h
      refine z_iconst (0 : Int32) C dX10_areYears_20 (by decide) ?_
      obtain rfl := Option.some.inj h
      exact z_sub [] rfl hj1
    · have h := e_f hc h
      refine z_iload_n C dX10_areYears_9 rfl ?_
      refine z_sipush (999 : Int32) C dX10_areYears_10 (by decide) ?_
      refine z_icmp_gt 20 C dX10_areYears_13 (by decide) (fun hc => ?_) (fun hc => ?_)
      · have h := e_t hc h
        refine z_iconst (0 : Int32) C dX10_areYears_20 (by decide) ?_
        obtain rfl := Option.some.inj h
        exact z_sub [] rfl hj1
      · have h := e_f hc h
        refine z_iconst (1 : Int32) C dX10_areYears_16 (by decide) ?_
        refine z_goto 21 C dX10_areYears_17 (by decide) ?_
        obtain rfl := Option.some.inj h
        exact z_sub [] rfl hj1
theorem hy_X10_dated : yX10_dated.cls = RX10 ∧ yX10_dated.cls ≠ "java/lang/invoke/MethodHandle" ∧ yX10_dated.cls ≠ "java/lang/invoke/VarHandle" ∧ (parseMethodDescriptor yX10_dated.desc).map (fun d => d.parameters.length) = some 2 := by decide +kernel
def wX10_dated : List Cond := Cond.code yX10_dated cX10_dated 3 (some .int) :: TB
def f_X10_dated (M : MM) (x1 : Int32) (x2 : Int32) : Option Int32 :=
  (f_X10_areYears M x1 x2).bind fun (v2 : Int32) =>
  if v2 = 0 then
    some (-1000000002 : Int32)
  else
    (f_X7_people M ).bind fun (v19 : Int32) =>
    (f_X9_diedBetween M v19 x1 x2).bind fun (v24 : Int32) =>
    some v24
set_option maxRecDepth 100000 in
set_option maxHeartbeats 4000000 in
theorem c_X10_dated (l : Launch) (g : Gx) {M : MM} {x1 : Int32} {x2 : Int32} {r : Int32} (h : f_X10_dated M x1 x2 = some r) : zMi l yX10_dated wX10_dated (rmm 5 109) [.ref (ga g 0), .int x1, .int x2] g M r M := by
  refine zMi_of .int (by decide) rfl (Nat.le_of_ble_eq_true rfl) rfl rfl ?_
  intro x C E
  show zJ g x M 0 [(0, .ref (ga g 0)), (1, .int x1), (2, .int x2)] []
  unfold f_X10_dated at h
  refine z_iload_n C dX10_dated_0 rfl ?_
  refine z_iload_n C dX10_dated_1 rfl ?_
  obtain ⟨v2, h2, h⟩ := e_bd h
  refine z_callSi (As := [.int x1, .int x2]) C (c_X10_areYears l g h2) rfl (gcS hsT tw_2_207 cw_X10_areYears) rfl rfl rfl hy_X10_areYears rfl ⟨Nat.le_of_ble_eq_true rfl, Nat.le_of_ble_eq_true rfl⟩ (Nat.le_of_ble_eq_true rfl) dX10_dated_2 ?_
  refine z_if_ne 11 C dX10_dated_5 (by decide) (fun hc => ?_) (fun hc => ?_)
  · have h := e_f hc h
    refine z_aload_n C dX10_dated_11 rfl ?_
    refine z_get C O_0 2 rfl (fun _ h9 => hsT _ (inX10 _ h9)) (by decide) (hsT _ tw_1_207) dX10_dated_12 rfl ?_
    refine z_aload_n C dX10_dated_15 rfl ?_
    refine z_get C O_0 0 rfl (fun _ h9 => hsT _ (inX10 _ h9)) (by decide) (hsT _ tw_1_205) dX10_dated_16 rfl ?_
    obtain ⟨v19, h19, h⟩ := e_bd h
    refine z_callVi (As := []) C (c_X7_people l g h19) rfl O_1 rfl (gcV hsT tw_1_237 cw_X7_people) rfl rfl rfl hy_X7_people rfl ⟨Nat.le_of_ble_eq_true rfl, Nat.le_of_ble_eq_true rfl⟩ (Nat.le_of_ble_eq_true rfl) dX10_dated_19 ?_
    refine z_iload_n C dX10_dated_22 rfl ?_
    refine z_iload_n C dX10_dated_23 rfl ?_
    obtain ⟨v24, h24, h⟩ := e_bd h
    refine z_callVi (As := [.int v19, .int x1, .int x2]) C (c_X9_diedBetween l g h24) rfl O_3 rfl (gcV hsT tw_2_210 cw_X9_diedBetween) rfl rfl rfl hy_X9_diedBetween rfl ⟨Nat.le_of_ble_eq_true rfl, Nat.le_of_ble_eq_true rfl⟩ (Nat.le_of_ble_eq_true rfl) dX10_dated_24 ?_
    obtain rfl := Option.some.inj h
    exact z_iret C E dX10_dated_27
  · have h := e_t hc h
    refine z_ldc (v := (-1000000002 : Int32)) C (hsT _ tw_2_83) dX10_dated_8 ?_
    obtain rfl := Option.some.inj h
    exact z_iret C E dX10_dated_10
theorem hy_X10_signAt : yX10_signAt.cls = RX10 ∧ yX10_signAt.cls ≠ "java/lang/invoke/MethodHandle" ∧ yX10_signAt.cls ≠ "java/lang/invoke/VarHandle" ∧ (parseMethodDescriptor yX10_signAt.desc).map (fun d => d.parameters.length) = some 1 := by decide +kernel
def wX10_signAt : List Cond := Cond.code yX10_signAt cX10_signAt 2 (some .int) :: TB
def f_X10_signAt (M : MM) (x1 : Int32) : Option Int32 :=
  (f_X7_signNumber M x1).bind fun (v5 : Int32) =>
  some v5
set_option maxRecDepth 100000 in
set_option maxHeartbeats 4000000 in
theorem c_X10_signAt (l : Launch) (g : Gx) {M : MM} {x1 : Int32} {r : Int32} (h : f_X10_signAt M x1 = some r) : zMi l yX10_signAt wX10_signAt (rmm 2 41) [.ref (ga g 0), .int x1] g M r M := by
  refine zMi_of .int (by decide) rfl (Nat.le_of_ble_eq_true rfl) rfl rfl ?_
  intro x C E
  show zJ g x M 0 [(0, .ref (ga g 0)), (1, .int x1)] []
  unfold f_X10_signAt at h
  refine z_aload_n C dX10_signAt_0 rfl ?_
  refine z_get C O_0 0 rfl (fun _ h9 => hsT _ (inX10 _ h9)) (by decide) (hsT _ tw_1_205) dX10_signAt_1 rfl ?_
  refine z_iload_n C dX10_signAt_4 rfl ?_
  obtain ⟨v5, h5, h⟩ := e_bd h
  refine z_callVi (As := [.int x1]) C (c_X7_signNumber l g h5) rfl O_1 rfl (gcV hsT tw_2_220 cw_X7_signNumber) rfl rfl rfl hy_X7_signNumber rfl ⟨Nat.le_of_ble_eq_true rfl, Nat.le_of_ble_eq_true rfl⟩ (Nat.le_of_ble_eq_true rfl) dX10_signAt_5 ?_
  obtain rfl := Option.some.inj h
  exact z_iret C E dX10_signAt_8
theorem hy_X10_isArms : yX10_isArms.cls ≠ "java/lang/invoke/MethodHandle" ∧ yX10_isArms.cls ≠ "java/lang/invoke/VarHandle" ∧ (parseMethodDescriptor yX10_isArms.desc).map (fun d => d.parameters.length) = some 1 := by decide +kernel
def wX10_isArms : List Cond := Cond.code yX10_isArms cX10_isArms 1 (some .boolean) :: TB
def f_X10_isArms (M : MM) (x0 : Int32) : Option Int32 :=
  (if x0 < 0 then
    some (0 : Int32)
  else
    if (10 : Int32) ≤ x0 then
      some (0 : Int32)
    else
      some (1 : Int32)
  ).bind fun (j1 : Int32) =>
    z_rzp j1
set_option maxRecDepth 100000 in
set_option maxHeartbeats 4000000 in
theorem c_X10_isArms (l : Launch) (g : Gx) {M : MM} {x0 : Int32} {r : Int32} (h : f_X10_isArms M x0 = some r) : zMi l yX10_isArms wX10_isArms (rmm 0 0) [.int x0] g M r M := by
  refine zMi_of .boolean (by decide) rfl (Nat.le_of_ble_eq_true rfl) rfl rfl ?_
  intro x C E
  show zJ g x M 0 [(0, .int x0)] []
  unfold f_X10_isArms at h
  refine z_iload_n C dX10_isArms_0 rfl ?_
  obtain ⟨j1, h1, h⟩ := e_bd h
  have hj1 : zJ g x M 15 [] [.int j1] := by
    obtain ⟨hz, rfl⟩ := e_rzp h
    exact z_zret C E hz dX10_isArms_15
  have h := h1
  refine z_if_lt 14 C dX10_isArms_1 (by decide) (fun hc => ?_) (fun hc => ?_)
  · have h := e_t hc h
    refine z_iconst (0 : Int32) C dX10_isArms_14 (by decide) ?_
    obtain rfl := Option.some.inj h
    exact z_sub [] rfl hj1
  · have h := e_f hc h
    refine z_iload_n C dX10_isArms_4 rfl ?_
    refine z_bipush (10 : Int32) C dX10_isArms_5 (by decide) ?_
    refine z_icmp_ge 14 C dX10_isArms_7 (by decide) (fun hc => ?_) (fun hc => ?_)
    · have h := e_t hc h
      refine z_iconst (0 : Int32) C dX10_isArms_14 (by decide) ?_
      obtain rfl := Option.some.inj h
      exact z_sub [] rfl hj1
    · have h := e_f hc h
      refine z_iconst (1 : Int32) C dX10_isArms_10 (by decide) ?_
      refine z_goto 15 C dX10_isArms_11 (by decide) ?_
      obtain rfl := Option.some.inj h
      exact z_sub [] rfl hj1
theorem hy_X10_reckonAll : yX10_reckonAll.cls = RX10 ∧ yX10_reckonAll.cls ≠ "java/lang/invoke/MethodHandle" ∧ yX10_reckonAll.cls ≠ "java/lang/invoke/VarHandle" ∧ (parseMethodDescriptor yX10_reckonAll.desc).map (fun d => d.parameters.length) = some 0 := by decide +kernel
def wX10_reckonAll : List Cond := Cond.code yX10_reckonAll cX10_reckonAll 1 none :: TB
def f_X10_reckonAll (M : MM)  : Option MM :=
  (f_X1_reckon M ).bind fun (M8 : MM) =>
  (f_X9_reckon M8 ).bind fun (M19 : MM) =>
  some M19
set_option maxRecDepth 100000 in
set_option maxHeartbeats 4000000 in
theorem c_X10_reckonAll (l : Launch) (g : Gx) {M : MM}  {r : MM} (h : f_X10_reckonAll M  = some r) : zMv l yX10_reckonAll wX10_reckonAll (rmm 5 115) [.ref (ga g 0)] g M r := by
  refine zMv_of (by decide) rfl (Nat.le_of_ble_eq_true rfl) rfl rfl ?_
  intro x C E
  show zJ g x M 0 [(0, .ref (ga g 0))] []
  unfold f_X10_reckonAll at h
  refine z_aload_n C dX10_reckonAll_0 rfl ?_
  refine z_get C O_0 1 rfl (fun _ h9 => hsT _ (inX10 _ h9)) (by decide) (hsT _ tw_1_206) dX10_reckonAll_1 rfl ?_
  refine z_aload_n C dX10_reckonAll_4 rfl ?_
  refine z_get C O_0 0 rfl (fun _ h9 => hsT _ (inX10 _ h9)) (by decide) (hsT _ tw_1_205) dX10_reckonAll_5 rfl ?_
  obtain ⟨M8, h8, h⟩ := e_bd h
  refine z_callVv (As := [.ref (ga g 1)]) C (c_X1_reckon l g h8) rfl O_2 rfl (gcV hsT tw_3_18 cw_X1_reckon) rfl rfl rfl hy_X1_reckon rfl ⟨Nat.le_of_ble_eq_true rfl, Nat.le_of_ble_eq_true rfl⟩ (Nat.le_of_ble_eq_true rfl) dX10_reckonAll_8 ?_
  refine z_aload_n C dX10_reckonAll_11 rfl ?_
  refine z_get C O_0 2 rfl (fun _ h9 => hsT _ (inX10 _ h9)) (by decide) (hsT _ tw_1_207) dX10_reckonAll_12 rfl ?_
  refine z_aload_n C dX10_reckonAll_15 rfl ?_
  refine z_get C O_0 0 rfl (fun _ h9 => hsT _ (inX10 _ h9)) (by decide) (hsT _ tw_1_205) dX10_reckonAll_16 rfl ?_
  obtain ⟨M19, h19, h⟩ := e_bd h
  refine z_callVv (As := [.ref (ga g 1)]) C (c_X9_reckon l g h19) rfl O_3 rfl (gcV hsT tw_3_28 cw_X9_reckon) rfl rfl rfl hy_X9_reckon rfl ⟨Nat.le_of_ble_eq_true rfl, Nat.le_of_ble_eq_true rfl⟩ (Nat.le_of_ble_eq_true rfl) dX10_reckonAll_19 ?_
  obtain rfl := Option.some.inj h
  exact z_vret C E dX10_reckonAll_22
theorem hy_X10_put : yX10_put.cls = RX10 ∧ yX10_put.cls ≠ "java/lang/invoke/MethodHandle" ∧ yX10_put.cls ≠ "java/lang/invoke/VarHandle" ∧ (parseMethodDescriptor yX10_put.desc).map (fun d => d.parameters.length) = some 4 := by decide +kernel
def wX10_put : List Cond := Cond.code yX10_put cX10_put 5 (some .int) :: TB
def f_X10_put_T82 (M : MM) (x1 : Int32) (x2 : Int32) (x3 : Int32) (x4 : Int32) : Option (Int32 × MM) :=
  (f_X7_hasRoom M ).bind fun (v86 : Int32) =>
  if v86 = 0 then
    some ((-1000000004 : Int32), M)
  else
    (f_X5_remember M ).bind fun (M103 : MM) =>
    (f_X7_addPerson M103 x1 x2 x3 x4).bind fun (M115 : MM) =>
    (f_X10_reckonAll M115 ).bind fun (M119 : MM) =>
    (f_X7_people M119 ).bind fun (v126 : Int32) =>
    some ((v126 - (1 : Int32)), M119)
def f_X10_put_T61 (M : MM) (x1 : Int32) (x2 : Int32) (x3 : Int32) (x4 : Int32) : Option (Int32 × MM) :=
  if x4 = (-1 : Int32) then
    f_X10_put_T82 M x1 x2 x3 x4
  else
    (f_X7_isWoman M x4).bind fun (v73 : Int32) =>
    if v73 = 0 then
      some ((-1000000003 : Int32), M)
    else
      f_X10_put_T82 M x1 x2 x3 x4
def f_X10_put (M : MM) (x1 : Int32) (x2 : Int32) (x3 : Int32) (x4 : Int32) : Option (Int32 × MM) :=
  (f_X7_hasOrNone M x3).bind fun (v5 : Int32) =>
  if v5 = 0 then
    some ((-1000000001 : Int32), M)
  else
    (f_X7_hasOrNone M x4).bind fun (v17 : Int32) =>
    if v17 = 0 then
      some ((-1000000001 : Int32), M)
    else
      if x1 < 0 then
        some ((-1000000002 : Int32), M)
      else
        if (1 : Int32) < x1 then
          some ((-1000000002 : Int32), M)
        else
          (f_X10_isArms M x2).bind fun (v36 : Int32) =>
          if v36 = 0 then
            some ((-1000000002 : Int32), M)
          else
            if x3 = (-1 : Int32) then
              f_X10_put_T61 M x1 x2 x3 x4
            else
              (f_X7_isMan M x3).bind fun (v55 : Int32) =>
              if v55 = 0 then
                some ((-1000000003 : Int32), M)
              else
                f_X10_put_T61 M x1 x2 x3 x4
set_option maxRecDepth 100000 in
set_option maxHeartbeats 4000000 in
theorem tl_X10_put_82 {l : Launch} {g : Gx} {x : Cx} (C : zC g x l RX10 cX10_put wX10_put (rmm 6 135) 5) {M : MM} {x1 : Int32} {x2 : Int32} {x3 : Int32} {x4 : Int32} {r : (Int32 × MM)} (h : f_X10_put_T82 M x1 x2 x3 x4 = some r) (E : zRi g x .int r.1 r.2) : zJ g x M 82 [(0, .ref (ga g 0)), (1, .int x1), (2, .int x2), (3, .int x3), (4, .int x4)] [] := by
  unfold f_X10_put_T82 at h
  refine z_aload_n C dX10_put_82 rfl ?_
  refine z_get C O_0 0 rfl (fun _ h9 => hsT _ (inX10 _ h9)) (by decide) (hsT _ tw_1_205) dX10_put_83 rfl ?_
  obtain ⟨v86, h86, h⟩ := e_bd h
  refine z_callVi (As := []) C (c_X7_hasRoom l g h86) rfl O_1 rfl (gcV hsT tw_2_232 cw_X7_hasRoom) rfl rfl rfl hy_X7_hasRoom rfl ⟨Nat.le_of_ble_eq_true rfl, Nat.le_of_ble_eq_true rfl⟩ (Nat.le_of_ble_eq_true rfl) dX10_put_86 ?_
  refine z_if_ne 95 C dX10_put_89 (by decide) (fun hc => ?_) (fun hc => ?_)
  · have h := e_f hc h
    refine z_aload_n C dX10_put_95 rfl ?_
    refine z_get C O_0 6 rfl (fun _ h9 => hsT _ (inX10 _ h9)) (by decide) (hsT _ tw_1_211) dX10_put_96 rfl ?_
    refine z_aload_n C dX10_put_99 rfl ?_
    refine z_get C O_0 0 rfl (fun _ h9 => hsT _ (inX10 _ h9)) (by decide) (hsT _ tw_1_205) dX10_put_100 rfl ?_
    obtain ⟨M103, h103, h⟩ := e_bd h
    refine z_callVv (As := [.ref (ga g 1)]) C (c_X5_remember l g h103) rfl O_7 rfl (gcV hsT tw_2_237 cw_X5_remember) rfl rfl rfl hy_X5_remember rfl ⟨Nat.le_of_ble_eq_true rfl, Nat.le_of_ble_eq_true rfl⟩ (Nat.le_of_ble_eq_true rfl) dX10_put_103 ?_
    refine z_aload_n C dX10_put_106 rfl ?_
    refine z_get C O_0 0 rfl (fun _ h9 => hsT _ (inX10 _ h9)) (by decide) (hsT _ tw_1_205) dX10_put_107 rfl ?_
    refine z_iload_n C dX10_put_110 rfl ?_
    refine z_iload_n C dX10_put_111 rfl ?_
    refine z_iload_n C dX10_put_112 rfl ?_
    refine z_iload C dX10_put_113 rfl ?_
    obtain ⟨M115, h115, h⟩ := e_bd h
    refine z_callVv (As := [.int x1, .int x2, .int x3, .int x4]) C (c_X7_addPerson l g h115) rfl O_1 rfl (gcV hsT tw_3_9 cw_X7_addPerson) rfl rfl rfl hy_X7_addPerson rfl ⟨Nat.le_of_ble_eq_true rfl, Nat.le_of_ble_eq_true rfl⟩ (Nat.le_of_ble_eq_true rfl) dX10_put_115 ?_
    refine z_aload_n C dX10_put_118 rfl ?_
    obtain ⟨M119, h119, h⟩ := e_bd h
    refine z_callVv (As := []) C (c_X10_reckonAll l g h119) rfl O_0 rfl (gcV hsT tw_3_14 cw_X10_reckonAll) rfl rfl rfl hy_X10_reckonAll rfl ⟨Nat.le_of_ble_eq_true rfl, Nat.le_of_ble_eq_true rfl⟩ (Nat.le_of_ble_eq_true rfl) dX10_put_119 ?_
    refine z_aload_n C dX10_put_122 rfl ?_
    refine z_get C O_0 0 rfl (fun _ h9 => hsT _ (inX10 _ h9)) (by decide) (hsT _ tw_1_205) dX10_put_123 rfl ?_
    obtain ⟨v126, h126, h⟩ := e_bd h
    refine z_callVi (As := []) C (c_X7_people l g h126) rfl O_1 rfl (gcV hsT tw_1_237 cw_X7_people) rfl rfl rfl hy_X7_people rfl ⟨Nat.le_of_ble_eq_true rfl, Nat.le_of_ble_eq_true rfl⟩ (Nat.le_of_ble_eq_true rfl) dX10_put_126 ?_
    refine z_iconst (1 : Int32) C dX10_put_129 (by decide) ?_
    refine z_isub C dX10_put_130 ?_
    obtain rfl := Option.some.inj h
    exact z_iret C E dX10_put_131
  · have h := e_t hc h
    refine z_ldc (v := (-1000000004 : Int32)) C (hsT _ tw_2_236) dX10_put_92 ?_
    obtain rfl := Option.some.inj h
    exact z_iret C E dX10_put_94
set_option maxRecDepth 100000 in
set_option maxHeartbeats 4000000 in
theorem tl_X10_put_61 {l : Launch} {g : Gx} {x : Cx} (C : zC g x l RX10 cX10_put wX10_put (rmm 6 135) 5) {M : MM} {x1 : Int32} {x2 : Int32} {x3 : Int32} {x4 : Int32} {r : (Int32 × MM)} (h : f_X10_put_T61 M x1 x2 x3 x4 = some r) (E : zRi g x .int r.1 r.2) : zJ g x M 61 [(0, .ref (ga g 0)), (1, .int x1), (2, .int x2), (3, .int x3), (4, .int x4)] [] := by
  unfold f_X10_put_T61 at h
  refine z_iload C dX10_put_61 rfl ?_
  refine z_iconst (-1 : Int32) C dX10_put_63 (by decide) ?_
  refine z_icmp_eq 82 C dX10_put_64 (by decide) (fun hc => ?_) (fun hc => ?_)
  · have h := e_t hc h
    refine z_sub [0, 1, 2, 3, 4] rfl ?_
    exact tl_X10_put_82 C h E
  · have h := e_f hc h
    refine z_aload_n C dX10_put_67 rfl ?_
    refine z_get C O_0 0 rfl (fun _ h9 => hsT _ (inX10 _ h9)) (by decide) (hsT _ tw_1_205) dX10_put_68 rfl ?_
    refine z_iload C dX10_put_71 rfl ?_
    obtain ⟨v73, h73, h⟩ := e_bd h
    refine z_callVi (As := [.int x4]) C (c_X7_isWoman l g h73) rfl O_1 rfl (gcV hsT tw_2_179 cw_X7_isWoman) rfl rfl rfl hy_X7_isWoman rfl ⟨Nat.le_of_ble_eq_true rfl, Nat.le_of_ble_eq_true rfl⟩ (Nat.le_of_ble_eq_true rfl) dX10_put_73 ?_
    refine z_if_ne 82 C dX10_put_76 (by decide) (fun hc => ?_) (fun hc => ?_)
    · have h := e_f hc h
      refine z_sub [0, 1, 2, 3, 4] rfl ?_
      exact tl_X10_put_82 C h E
    · have h := e_t hc h
      refine z_ldc (v := (-1000000003 : Int32)) C (hsT _ tw_2_183) dX10_put_79 ?_
      obtain rfl := Option.some.inj h
      exact z_iret C E dX10_put_81
set_option maxRecDepth 100000 in
set_option maxHeartbeats 4000000 in
theorem c_X10_put (l : Launch) (g : Gx) {M : MM} {x1 : Int32} {x2 : Int32} {x3 : Int32} {x4 : Int32} {r : Int32 × MM} (h : f_X10_put M x1 x2 x3 x4 = some r) : zMi l yX10_put wX10_put (rmm 6 135) [.ref (ga g 0), .int x1, .int x2, .int x3, .int x4] g M r.1 r.2 := by
  refine zMi_of .int (by decide) rfl (Nat.le_of_ble_eq_true rfl) rfl rfl ?_
  intro x C E
  show zJ g x M 0 [(0, .ref (ga g 0)), (1, .int x1), (2, .int x2), (3, .int x3), (4, .int x4)] []
  unfold f_X10_put at h
  refine z_aload_n C dX10_put_0 rfl ?_
  refine z_get C O_0 0 rfl (fun _ h9 => hsT _ (inX10 _ h9)) (by decide) (hsT _ tw_1_205) dX10_put_1 rfl ?_
  refine z_iload_n C dX10_put_4 rfl ?_
  obtain ⟨v5, h5, h⟩ := e_bd h
  refine z_callVi (As := [.int x3]) C (c_X7_hasOrNone l g h5) rfl O_1 rfl (gcV hsT tw_2_225 cw_X7_hasOrNone) rfl rfl rfl hy_X7_hasOrNone rfl ⟨Nat.le_of_ble_eq_true rfl, Nat.le_of_ble_eq_true rfl⟩ (Nat.le_of_ble_eq_true rfl) dX10_put_5 ?_
  refine z_if_eq 23 C dX10_put_8 (by decide) (fun hc => ?_) (fun hc => ?_)
  · have h := e_t hc h
    refine z_ldc (v := (-1000000001 : Int32)) C (hsT _ tw_2_92) dX10_put_23 ?_
    obtain rfl := Option.some.inj h
    exact z_iret C E dX10_put_25
  · have h := e_f hc h
    refine z_aload_n C dX10_put_11 rfl ?_
    refine z_get C O_0 0 rfl (fun _ h9 => hsT _ (inX10 _ h9)) (by decide) (hsT _ tw_1_205) dX10_put_12 rfl ?_
    refine z_iload C dX10_put_15 rfl ?_
    obtain ⟨v17, h17, h⟩ := e_bd h
    refine z_callVi (As := [.int x4]) C (c_X7_hasOrNone l g h17) rfl O_1 rfl (gcV hsT tw_2_225 cw_X7_hasOrNone) rfl rfl rfl hy_X7_hasOrNone rfl ⟨Nat.le_of_ble_eq_true rfl, Nat.le_of_ble_eq_true rfl⟩ (Nat.le_of_ble_eq_true rfl) dX10_put_17 ?_
    refine z_if_ne 26 C dX10_put_20 (by decide) (fun hc => ?_) (fun hc => ?_)
    · have h := e_f hc h
      refine z_iload_n C dX10_put_26 rfl ?_
      refine z_if_lt 42 C dX10_put_27 (by decide) (fun hc => ?_) (fun hc => ?_)
      · have h := e_t hc h
        refine z_ldc (v := (-1000000002 : Int32)) C (hsT _ tw_2_83) dX10_put_42 ?_
        obtain rfl := Option.some.inj h
        exact z_iret C E dX10_put_44
      · have h := e_f hc h
        refine z_iload_n C dX10_put_30 rfl ?_
        refine z_iconst (1 : Int32) C dX10_put_31 (by decide) ?_
        refine z_icmp_gt 42 C dX10_put_32 (by decide) (fun hc => ?_) (fun hc => ?_)
        · have h := e_t hc h
          refine z_ldc (v := (-1000000002 : Int32)) C (hsT _ tw_2_83) dX10_put_42 ?_
          obtain rfl := Option.some.inj h
          exact z_iret C E dX10_put_44
        · have h := e_f hc h
          refine z_iload_n C dX10_put_35 rfl ?_
          obtain ⟨v36, h36, h⟩ := e_bd h
          refine z_callSi (As := [.int x2]) C (c_X10_isArms l g h36) rfl (gcS hsT tw_2_229 cw_X10_isArms) rfl rfl rfl hy_X10_isArms rfl ⟨Nat.le_of_ble_eq_true rfl, Nat.le_of_ble_eq_true rfl⟩ (Nat.le_of_ble_eq_true rfl) dX10_put_36 ?_
          refine z_if_ne 45 C dX10_put_39 (by decide) (fun hc => ?_) (fun hc => ?_)
          · have h := e_f hc h
            refine z_iload_n C dX10_put_45 rfl ?_
            refine z_iconst (-1 : Int32) C dX10_put_46 (by decide) ?_
            refine z_icmp_eq 61 C dX10_put_47 (by decide) (fun hc => ?_) (fun hc => ?_)
            · have h := e_t hc h
              refine z_sub [0, 1, 2, 3, 4] rfl ?_
              exact tl_X10_put_61 C h E
            · have h := e_f hc h
              refine z_aload_n C dX10_put_50 rfl ?_
              refine z_get C O_0 0 rfl (fun _ h9 => hsT _ (inX10 _ h9)) (by decide) (hsT _ tw_1_205) dX10_put_51 rfl ?_
              refine z_iload_n C dX10_put_54 rfl ?_
              obtain ⟨v55, h55, h⟩ := e_bd h
              refine z_callVi (As := [.int x3]) C (c_X7_isMan l g h55) rfl O_1 rfl (gcV hsT tw_2_175 cw_X7_isMan) rfl rfl rfl hy_X7_isMan rfl ⟨Nat.le_of_ble_eq_true rfl, Nat.le_of_ble_eq_true rfl⟩ (Nat.le_of_ble_eq_true rfl) dX10_put_55 ?_
              refine z_if_eq 79 C dX10_put_58 (by decide) (fun hc => ?_) (fun hc => ?_)
              · have h := e_t hc h
                refine z_ldc (v := (-1000000003 : Int32)) C (hsT _ tw_2_183) dX10_put_79 ?_
                obtain rfl := Option.some.inj h
                exact z_iret C E dX10_put_81
              · have h := e_f hc h
                refine z_sub [0, 1, 2, 3, 4] rfl ?_
                exact tl_X10_put_61 C h E
          · have h := e_t hc h
            refine z_ldc (v := (-1000000002 : Int32)) C (hsT _ tw_2_83) dX10_put_42 ?_
            obtain rfl := Option.some.inj h
            exact z_iret C E dX10_put_44
    · have h := e_t hc h
      refine z_ldc (v := (-1000000001 : Int32)) C (hsT _ tw_2_92) dX10_put_23 ?_
      obtain rfl := Option.some.inj h
      exact z_iret C E dX10_put_25
theorem hy_X10_boundYears : yX10_boundYears.cls = RX10 ∧ yX10_boundYears.cls ≠ "java/lang/invoke/MethodHandle" ∧ yX10_boundYears.cls ≠ "java/lang/invoke/VarHandle" ∧ (parseMethodDescriptor yX10_boundYears.desc).map (fun d => d.parameters.length) = some 4 := by decide +kernel
def wX10_boundYears : List Cond := Cond.code yX10_boundYears cX10_boundYears 5 (some .int) :: TB
def f_X10_boundYears (M : MM) (x1 : Int32) (x2 : Int32) (x3 : Int32) (x4 : Int32) : Option (Int32 × MM) :=
  (f_X7_has M x1).bind fun (v5 : Int32) =>
  if v5 = 0 then
    some ((-1000000001 : Int32), M)
  else
    (f_X10_areYears M x3 x4).bind fun (v17 : Int32) =>
    if v17 = 0 then
      some ((-1000000002 : Int32), M)
    else
      (f_X5_remember M ).bind fun (M34 : MM) =>
      (f_X7_setBounds M34 x1 x2 x3 x4).bind fun (M46 : MM) =>
      (f_X9_reckon M46 ).bind fun (M57 : MM) =>
      (f_X9_spoiledBit M57 ).bind fun (v64 : Int32) =>
      some (v64, M57)
set_option maxRecDepth 100000 in
set_option maxHeartbeats 4000000 in
theorem c_X10_boundYears (l : Launch) (g : Gx) {M : MM} {x1 : Int32} {x2 : Int32} {x3 : Int32} {x4 : Int32} {r : Int32 × MM} (h : f_X10_boundYears M x1 x2 x3 x4 = some r) : zMi l yX10_boundYears wX10_boundYears (rmm 4 89) [.ref (ga g 0), .int x1, .int x2, .int x3, .int x4] g M r.1 r.2 := by
  refine zMi_of .int (by decide) rfl (Nat.le_of_ble_eq_true rfl) rfl rfl ?_
  intro x C E
  show zJ g x M 0 [(0, .ref (ga g 0)), (1, .int x1), (2, .int x2), (3, .int x3), (4, .int x4)] []
  unfold f_X10_boundYears at h
  refine z_aload_n C dX10_boundYears_0 rfl ?_
  refine z_get C O_0 0 rfl (fun _ h9 => hsT _ (inX10 _ h9)) (by decide) (hsT _ tw_1_205) dX10_boundYears_1 rfl ?_
  refine z_iload_n C dX10_boundYears_4 rfl ?_
  obtain ⟨v5, h5, h⟩ := e_bd h
  refine z_callVi (As := [.int x1]) C (c_X7_has l g h5) rfl O_1 rfl (gcV hsT tw_2_88 cw_X7_has) rfl rfl rfl hy_X7_has rfl ⟨Nat.le_of_ble_eq_true rfl, Nat.le_of_ble_eq_true rfl⟩ (Nat.le_of_ble_eq_true rfl) dX10_boundYears_5 ?_
  refine z_if_ne 14 C dX10_boundYears_8 (by decide) (fun hc => ?_) (fun hc => ?_)
  · have h := e_f hc h
    refine z_iload_n C dX10_boundYears_14 rfl ?_
    refine z_iload C dX10_boundYears_15 rfl ?_
    obtain ⟨v17, h17, h⟩ := e_bd h
    refine z_callSi (As := [.int x3, .int x4]) C (c_X10_areYears l g h17) rfl (gcS hsT tw_2_207 cw_X10_areYears) rfl rfl rfl hy_X10_areYears rfl ⟨Nat.le_of_ble_eq_true rfl, Nat.le_of_ble_eq_true rfl⟩ (Nat.le_of_ble_eq_true rfl) dX10_boundYears_17 ?_
    refine z_if_ne 26 C dX10_boundYears_20 (by decide) (fun hc => ?_) (fun hc => ?_)
    · have h := e_f hc h
      refine z_aload_n C dX10_boundYears_26 rfl ?_
      refine z_get C O_0 6 rfl (fun _ h9 => hsT _ (inX10 _ h9)) (by decide) (hsT _ tw_1_211) dX10_boundYears_27 rfl ?_
      refine z_aload_n C dX10_boundYears_30 rfl ?_
      refine z_get C O_0 0 rfl (fun _ h9 => hsT _ (inX10 _ h9)) (by decide) (hsT _ tw_1_205) dX10_boundYears_31 rfl ?_
      obtain ⟨M34, h34, h⟩ := e_bd h
      refine z_callVv (As := [.ref (ga g 1)]) C (c_X5_remember l g h34) rfl O_7 rfl (gcV hsT tw_2_237 cw_X5_remember) rfl rfl rfl hy_X5_remember rfl ⟨Nat.le_of_ble_eq_true rfl, Nat.le_of_ble_eq_true rfl⟩ (Nat.le_of_ble_eq_true rfl) dX10_boundYears_34 ?_
      refine z_aload_n C dX10_boundYears_37 rfl ?_
      refine z_get C O_0 0 rfl (fun _ h9 => hsT _ (inX10 _ h9)) (by decide) (hsT _ tw_1_205) dX10_boundYears_38 rfl ?_
      refine z_iload_n C dX10_boundYears_41 rfl ?_
      refine z_iload_n C dX10_boundYears_42 rfl ?_
      refine z_iload_n C dX10_boundYears_43 rfl ?_
      refine z_iload C dX10_boundYears_44 rfl ?_
      obtain ⟨M46, h46, h⟩ := e_bd h
      refine z_callVv (As := [.int x1, .int x2, .int x3, .int x4]) C (c_X7_setBounds l g h46) rfl O_1 rfl (gcV hsT tw_3_67 cw_X7_setBounds) rfl rfl rfl hy_X7_setBounds rfl ⟨Nat.le_of_ble_eq_true rfl, Nat.le_of_ble_eq_true rfl⟩ (Nat.le_of_ble_eq_true rfl) dX10_boundYears_46 ?_
      refine z_aload_n C dX10_boundYears_49 rfl ?_
      refine z_get C O_0 2 rfl (fun _ h9 => hsT _ (inX10 _ h9)) (by decide) (hsT _ tw_1_207) dX10_boundYears_50 rfl ?_
      refine z_aload_n C dX10_boundYears_53 rfl ?_
      refine z_get C O_0 0 rfl (fun _ h9 => hsT _ (inX10 _ h9)) (by decide) (hsT _ tw_1_205) dX10_boundYears_54 rfl ?_
      obtain ⟨M57, h57, h⟩ := e_bd h
      refine z_callVv (As := [.ref (ga g 1)]) C (c_X9_reckon l g h57) rfl O_3 rfl (gcV hsT tw_3_28 cw_X9_reckon) rfl rfl rfl hy_X9_reckon rfl ⟨Nat.le_of_ble_eq_true rfl, Nat.le_of_ble_eq_true rfl⟩ (Nat.le_of_ble_eq_true rfl) dX10_boundYears_57 ?_
      refine z_aload_n C dX10_boundYears_60 rfl ?_
      refine z_get C O_0 2 rfl (fun _ h9 => hsT _ (inX10 _ h9)) (by decide) (hsT _ tw_1_207) dX10_boundYears_61 rfl ?_
      obtain ⟨v64, h64, h⟩ := e_bd h
      refine z_callVi (As := []) C (c_X9_spoiledBit l g h64) rfl O_3 rfl (gcV hsT tw_2_32 cw_X9_spoiledBit) rfl rfl rfl hy_X9_spoiledBit rfl ⟨Nat.le_of_ble_eq_true rfl, Nat.le_of_ble_eq_true rfl⟩ (Nat.le_of_ble_eq_true rfl) dX10_boundYears_64 ?_
      obtain rfl := Option.some.inj h
      exact z_iret C E dX10_boundYears_67
    · have h := e_t hc h
      refine z_ldc (v := (-1000000002 : Int32)) C (hsT _ tw_2_83) dX10_boundYears_23 ?_
      obtain rfl := Option.some.inj h
      exact z_iret C E dX10_boundYears_25
  · have h := e_t hc h
    refine z_ldc (v := (-1000000001 : Int32)) C (hsT _ tw_2_92) dX10_boundYears_11 ?_
    obtain rfl := Option.some.inj h
    exact z_iret C E dX10_boundYears_13
theorem hy_X10_born : yX10_born.cls = RX10 ∧ yX10_born.cls ≠ "java/lang/invoke/MethodHandle" ∧ yX10_born.cls ≠ "java/lang/invoke/VarHandle" ∧ (parseMethodDescriptor yX10_born.desc).map (fun d => d.parameters.length) = some 3 := by decide +kernel
def wX10_born : List Cond := Cond.code yX10_born cX10_born 4 (some .int) :: TB
def f_X10_born (M : MM) (x1 : Int32) (x2 : Int32) (x3 : Int32) : Option (Int32 × MM) :=
  (f_X10_boundYears M x1 (4 : Int32) x2 x3).bind fun (s5 : Int32 × MM) =>
  some (s5.1, s5.2)
set_option maxRecDepth 100000 in
set_option maxHeartbeats 4000000 in
theorem c_X10_born (l : Launch) (g : Gx) {M : MM} {x1 : Int32} {x2 : Int32} {x3 : Int32} {r : Int32 × MM} (h : f_X10_born M x1 x2 x3 = some r) : zMi l yX10_born wX10_born (rmm 5 113) [.ref (ga g 0), .int x1, .int x2, .int x3] g M r.1 r.2 := by
  refine zMi_of .int (by decide) rfl (Nat.le_of_ble_eq_true rfl) rfl rfl ?_
  intro x C E
  show zJ g x M 0 [(0, .ref (ga g 0)), (1, .int x1), (2, .int x2), (3, .int x3)] []
  unfold f_X10_born at h
  refine z_aload_n C dX10_born_0 rfl ?_
  refine z_iload_n C dX10_born_1 rfl ?_
  refine z_iconst (4 : Int32) C dX10_born_2 (by decide) ?_
  refine z_iload_n C dX10_born_3 rfl ?_
  refine z_iload_n C dX10_born_4 rfl ?_
  obtain ⟨s5, h5, h⟩ := e_bd h
  refine z_callVi (As := [.int x1, .int (4 : Int32), .int x2, .int x3]) C (c_X10_boundYears l g h5) rfl O_0 rfl (gcV hsT tw_3_63 cw_X10_boundYears) rfl rfl rfl hy_X10_boundYears rfl ⟨Nat.le_of_ble_eq_true rfl, Nat.le_of_ble_eq_true rfl⟩ (Nat.le_of_ble_eq_true rfl) dX10_born_5 ?_
  obtain rfl := Option.some.inj h
  exact z_iret C E dX10_born_8
theorem hy_X10_died : yX10_died.cls = RX10 ∧ yX10_died.cls ≠ "java/lang/invoke/MethodHandle" ∧ yX10_died.cls ≠ "java/lang/invoke/VarHandle" ∧ (parseMethodDescriptor yX10_died.desc).map (fun d => d.parameters.length) = some 3 := by decide +kernel
def wX10_died : List Cond := Cond.code yX10_died cX10_died 4 (some .int) :: TB
def f_X10_died (M : MM) (x1 : Int32) (x2 : Int32) (x3 : Int32) : Option (Int32 × MM) :=
  (f_X10_boundYears M x1 (6 : Int32) x2 x3).bind fun (s6 : Int32 × MM) =>
  some (s6.1, s6.2)
set_option maxRecDepth 100000 in
set_option maxHeartbeats 4000000 in
theorem c_X10_died (l : Launch) (g : Gx) {M : MM} {x1 : Int32} {x2 : Int32} {x3 : Int32} {r : Int32 × MM} (h : f_X10_died M x1 x2 x3 = some r) : zMi l yX10_died wX10_died (rmm 5 113) [.ref (ga g 0), .int x1, .int x2, .int x3] g M r.1 r.2 := by
  refine zMi_of .int (by decide) rfl (Nat.le_of_ble_eq_true rfl) rfl rfl ?_
  intro x C E
  show zJ g x M 0 [(0, .ref (ga g 0)), (1, .int x1), (2, .int x2), (3, .int x3)] []
  unfold f_X10_died at h
  refine z_aload_n C dX10_died_0 rfl ?_
  refine z_iload_n C dX10_died_1 rfl ?_
  refine z_bipush (6 : Int32) C dX10_died_2 (by decide) ?_
  refine z_iload_n C dX10_died_4 rfl ?_
  refine z_iload_n C dX10_died_5 rfl ?_
  obtain ⟨s6, h6, h⟩ := e_bd h
  refine z_callVi (As := [.int x1, .int (6 : Int32), .int x2, .int x3]) C (c_X10_boundYears l g h6) rfl O_0 rfl (gcV hsT tw_3_63 cw_X10_boundYears) rfl rfl rfl hy_X10_boundYears rfl ⟨Nat.le_of_ble_eq_true rfl, Nat.le_of_ble_eq_true rfl⟩ (Nat.le_of_ble_eq_true rfl) dX10_died_6 ?_
  obtain rfl := Option.some.inj h
  exact z_iret C E dX10_died_9
theorem hy_X10_rule : yX10_rule.cls = RX10 ∧ yX10_rule.cls ≠ "java/lang/invoke/MethodHandle" ∧ yX10_rule.cls ≠ "java/lang/invoke/VarHandle" ∧ (parseMethodDescriptor yX10_rule.desc).map (fun d => d.parameters.length) = some 1 := by decide +kernel
def wX10_rule : List Cond := Cond.code yX10_rule cX10_rule 2 (some .int) :: TB
def f_X10_rule (M : MM) (x1 : Int32) : Option (Int32 × MM) :=
  if x1 < 0 then
    some ((-1000000002 : Int32), M)
  else
    if x1 ≤ (2 : Int32) then
      (f_X5_remember M ).bind fun (M20 : MM) =>
      (f_X7_setRule M20 x1).bind fun (M28 : MM) =>
      (f_X1_reckon M28 ).bind fun (M39 : MM) =>
      (f_X1_unlikeCoats M39 ).bind fun (v46 : Int32) =>
      some (v46, M39)
    else
      some ((-1000000002 : Int32), M)
set_option maxRecDepth 100000 in
set_option maxHeartbeats 4000000 in
theorem c_X10_rule (l : Launch) (g : Gx) {M : MM} {x1 : Int32} {r : Int32 × MM} (h : f_X10_rule M x1 = some r) : zMi l yX10_rule wX10_rule (rmm 5 115) [.ref (ga g 0), .int x1] g M r.1 r.2 := by
  refine zMi_of .int (by decide) rfl (Nat.le_of_ble_eq_true rfl) rfl rfl ?_
  intro x C E
  show zJ g x M 0 [(0, .ref (ga g 0)), (1, .int x1)] []
  unfold f_X10_rule at h
  refine z_iload_n C dX10_rule_0 rfl ?_
  refine z_if_lt 9 C dX10_rule_1 (by decide) (fun hc => ?_) (fun hc => ?_)
  · have h := e_t hc h
    refine z_ldc (v := (-1000000002 : Int32)) C (hsT _ tw_2_83) dX10_rule_9 ?_
    obtain rfl := Option.some.inj h
    exact z_iret C E dX10_rule_11
  · have h := e_f hc h
    refine z_iload_n C dX10_rule_4 rfl ?_
    refine z_iconst (2 : Int32) C dX10_rule_5 (by decide) ?_
    refine z_icmp_le 12 C dX10_rule_6 (by decide) (fun hc => ?_) (fun hc => ?_)
    · have h := e_t hc h
      refine z_aload_n C dX10_rule_12 rfl ?_
      refine z_get C O_0 6 rfl (fun _ h9 => hsT _ (inX10 _ h9)) (by decide) (hsT _ tw_1_211) dX10_rule_13 rfl ?_
      refine z_aload_n C dX10_rule_16 rfl ?_
      refine z_get C O_0 0 rfl (fun _ h9 => hsT _ (inX10 _ h9)) (by decide) (hsT _ tw_1_205) dX10_rule_17 rfl ?_
      obtain ⟨M20, h20, h⟩ := e_bd h
      refine z_callVv (As := [.ref (ga g 1)]) C (c_X5_remember l g h20) rfl O_7 rfl (gcV hsT tw_2_237 cw_X5_remember) rfl rfl rfl hy_X5_remember rfl ⟨Nat.le_of_ble_eq_true rfl, Nat.le_of_ble_eq_true rfl⟩ (Nat.le_of_ble_eq_true rfl) dX10_rule_20 ?_
      refine z_aload_n C dX10_rule_23 rfl ?_
      refine z_get C O_0 0 rfl (fun _ h9 => hsT _ (inX10 _ h9)) (by decide) (hsT _ tw_1_205) dX10_rule_24 rfl ?_
      refine z_iload_n C dX10_rule_27 rfl ?_
      obtain ⟨M28, h28, h⟩ := e_bd h
      refine z_callVv (As := [.int x1]) C (c_X7_setRule l g h28) rfl O_1 rfl (gcV hsT tw_3_79 cw_X7_setRule) rfl rfl rfl hy_X7_setRule rfl ⟨Nat.le_of_ble_eq_true rfl, Nat.le_of_ble_eq_true rfl⟩ (Nat.le_of_ble_eq_true rfl) dX10_rule_28 ?_
      refine z_aload_n C dX10_rule_31 rfl ?_
      refine z_get C O_0 1 rfl (fun _ h9 => hsT _ (inX10 _ h9)) (by decide) (hsT _ tw_1_206) dX10_rule_32 rfl ?_
      refine z_aload_n C dX10_rule_35 rfl ?_
      refine z_get C O_0 0 rfl (fun _ h9 => hsT _ (inX10 _ h9)) (by decide) (hsT _ tw_1_205) dX10_rule_36 rfl ?_
      obtain ⟨M39, h39, h⟩ := e_bd h
      refine z_callVv (As := [.ref (ga g 1)]) C (c_X1_reckon l g h39) rfl O_2 rfl (gcV hsT tw_3_18 cw_X1_reckon) rfl rfl rfl hy_X1_reckon rfl ⟨Nat.le_of_ble_eq_true rfl, Nat.le_of_ble_eq_true rfl⟩ (Nat.le_of_ble_eq_true rfl) dX10_rule_39 ?_
      refine z_aload_n C dX10_rule_42 rfl ?_
      refine z_get C O_0 1 rfl (fun _ h9 => hsT _ (inX10 _ h9)) (by decide) (hsT _ tw_1_206) dX10_rule_43 rfl ?_
      obtain ⟨v46, h46, h⟩ := e_bd h
      refine z_callVi (As := []) C (c_X1_unlikeCoats l g h46) rfl O_2 rfl (gcV hsT tw_2_9 cw_X1_unlikeCoats) rfl rfl rfl hy_X1_unlikeCoats rfl ⟨Nat.le_of_ble_eq_true rfl, Nat.le_of_ble_eq_true rfl⟩ (Nat.le_of_ble_eq_true rfl) dX10_rule_46 ?_
      obtain rfl := Option.some.inj h
      exact z_iret C E dX10_rule_49
    · have h := e_f hc h
      refine z_ldc (v := (-1000000002 : Int32)) C (hsT _ tw_2_83) dX10_rule_9 ?_
      obtain rfl := Option.some.inj h
      exact z_iret C E dX10_rule_11
theorem hy_X10_sign : yX10_sign.cls = RX10 ∧ yX10_sign.cls ≠ "java/lang/invoke/MethodHandle" ∧ yX10_sign.cls ≠ "java/lang/invoke/VarHandle" ∧ (parseMethodDescriptor yX10_sign.desc).map (fun d => d.parameters.length) = some 1 := by decide +kernel
def wX10_sign : List Cond := Cond.code yX10_sign cX10_sign 2 (some .int) :: TB
def f_X10_sign (M : MM) (x1 : Int32) : Option (Int32 × MM) :=
  if x1 < 0 then
    some ((-1000000002 : Int32), M)
  else
    if x1 ≤ (10 : Int32) then
      (f_X7_signs M ).bind fun (v17 : Int32) =>
      if v17 < (10 : Int32) then
        (f_X5_remember M ).bind fun (M36 : MM) =>
        (f_X7_addSign M36 x1).bind fun (M44 : MM) =>
        (f_X7_signs M44 ).bind fun (v51 : Int32) =>
        some (v51, M44)
      else
        some ((-1000000004 : Int32), M)
    else
      some ((-1000000002 : Int32), M)
set_option maxRecDepth 100000 in
set_option maxHeartbeats 4000000 in
theorem c_X10_sign (l : Launch) (g : Gx) {M : MM} {x1 : Int32} {r : Int32 × MM} (h : f_X10_sign M x1 = some r) : zMi l yX10_sign wX10_sign (rmm 3 73) [.ref (ga g 0), .int x1] g M r.1 r.2 := by
  refine zMi_of .int (by decide) rfl (Nat.le_of_ble_eq_true rfl) rfl rfl ?_
  intro x C E
  show zJ g x M 0 [(0, .ref (ga g 0)), (1, .int x1)] []
  unfold f_X10_sign at h
  refine z_iload_n C dX10_sign_0 rfl ?_
  refine z_if_lt 10 C dX10_sign_1 (by decide) (fun hc => ?_) (fun hc => ?_)
  · have h := e_t hc h
    refine z_ldc (v := (-1000000002 : Int32)) C (hsT _ tw_2_83) dX10_sign_10 ?_
    obtain rfl := Option.some.inj h
    exact z_iret C E dX10_sign_12
  · have h := e_f hc h
    refine z_iload_n C dX10_sign_4 rfl ?_
    refine z_bipush (10 : Int32) C dX10_sign_5 (by decide) ?_
    refine z_icmp_le 13 C dX10_sign_7 (by decide) (fun hc => ?_) (fun hc => ?_)
    · have h := e_t hc h
      refine z_aload_n C dX10_sign_13 rfl ?_
      refine z_get C O_0 0 rfl (fun _ h9 => hsT _ (inX10 _ h9)) (by decide) (hsT _ tw_1_205) dX10_sign_14 rfl ?_
      obtain ⟨v17, h17, h⟩ := e_bd h
      refine z_callVi (As := []) C (c_X7_signs l g h17) rfl O_1 rfl (gcV hsT tw_2_5 cw_X7_signs) rfl rfl rfl hy_X7_signs rfl ⟨Nat.le_of_ble_eq_true rfl, Nat.le_of_ble_eq_true rfl⟩ (Nat.le_of_ble_eq_true rfl) dX10_sign_17 ?_
      refine z_bipush (10 : Int32) C dX10_sign_20 (by decide) ?_
      refine z_icmp_lt 28 C dX10_sign_22 (by decide) (fun hc => ?_) (fun hc => ?_)
      · have h := e_t hc h
        refine z_aload_n C dX10_sign_28 rfl ?_
        refine z_get C O_0 6 rfl (fun _ h9 => hsT _ (inX10 _ h9)) (by decide) (hsT _ tw_1_211) dX10_sign_29 rfl ?_
        refine z_aload_n C dX10_sign_32 rfl ?_
        refine z_get C O_0 0 rfl (fun _ h9 => hsT _ (inX10 _ h9)) (by decide) (hsT _ tw_1_205) dX10_sign_33 rfl ?_
        obtain ⟨M36, h36, h⟩ := e_bd h
        refine z_callVv (As := [.ref (ga g 1)]) C (c_X5_remember l g h36) rfl O_7 rfl (gcV hsT tw_2_237 cw_X5_remember) rfl rfl rfl hy_X5_remember rfl ⟨Nat.le_of_ble_eq_true rfl, Nat.le_of_ble_eq_true rfl⟩ (Nat.le_of_ble_eq_true rfl) dX10_sign_36 ?_
        refine z_aload_n C dX10_sign_39 rfl ?_
        refine z_get C O_0 0 rfl (fun _ h9 => hsT _ (inX10 _ h9)) (by decide) (hsT _ tw_1_205) dX10_sign_40 rfl ?_
        refine z_iload_n C dX10_sign_43 rfl ?_
        obtain ⟨M44, h44, h⟩ := e_bd h
        refine z_callVv (As := [.int x1]) C (c_X7_addSign l g h44) rfl O_1 rfl (gcV hsT tw_3_87 cw_X7_addSign) rfl rfl rfl hy_X7_addSign rfl ⟨Nat.le_of_ble_eq_true rfl, Nat.le_of_ble_eq_true rfl⟩ (Nat.le_of_ble_eq_true rfl) dX10_sign_44 ?_
        refine z_aload_n C dX10_sign_47 rfl ?_
        refine z_get C O_0 0 rfl (fun _ h9 => hsT _ (inX10 _ h9)) (by decide) (hsT _ tw_1_205) dX10_sign_48 rfl ?_
        obtain ⟨v51, h51, h⟩ := e_bd h
        refine z_callVi (As := []) C (c_X7_signs l g h51) rfl O_1 rfl (gcV hsT tw_2_5 cw_X7_signs) rfl rfl rfl hy_X7_signs rfl ⟨Nat.le_of_ble_eq_true rfl, Nat.le_of_ble_eq_true rfl⟩ (Nat.le_of_ble_eq_true rfl) dX10_sign_51 ?_
        obtain rfl := Option.some.inj h
        exact z_iret C E dX10_sign_54
      · have h := e_f hc h
        refine z_ldc (v := (-1000000004 : Int32)) C (hsT _ tw_2_236) dX10_sign_25 ?_
        obtain rfl := Option.some.inj h
        exact z_iret C E dX10_sign_27
    · have h := e_f hc h
      refine z_ldc (v := (-1000000002 : Int32)) C (hsT _ tw_2_83) dX10_sign_10 ?_
      obtain rfl := Option.some.inj h
      exact z_iret C E dX10_sign_12
theorem hy_X10_wipe : yX10_wipe.cls = RX10 ∧ yX10_wipe.cls ≠ "java/lang/invoke/MethodHandle" ∧ yX10_wipe.cls ≠ "java/lang/invoke/VarHandle" ∧ (parseMethodDescriptor yX10_wipe.desc).map (fun d => d.parameters.length) = some 0 := by decide +kernel
def wX10_wipe : List Cond := Cond.code yX10_wipe cX10_wipe 2 (some .int) :: TB
def f_X10_wipe (M : MM)  : Option (Int32 × MM) :=
  (f_X7_signs M ).bind fun (v4 : Int32) =>
  (f_X5_remember M ).bind fun (M16 : MM) =>
  (f_X7_clearSigns M16 ).bind fun (M23 : MM) =>
  some (v4, M23)
set_option maxRecDepth 100000 in
set_option maxHeartbeats 4000000 in
theorem c_X10_wipe (l : Launch) (g : Gx) {M : MM}  {r : Int32 × MM} (h : f_X10_wipe M  = some r) : zMi l yX10_wipe wX10_wipe (rmm 3 73) [.ref (ga g 0)] g M r.1 r.2 := by
  refine zMi_of .int (by decide) rfl (Nat.le_of_ble_eq_true rfl) rfl rfl ?_
  intro x C E
  show zJ g x M 0 [(0, .ref (ga g 0))] []
  unfold f_X10_wipe at h
  refine z_aload_n C dX10_wipe_0 rfl ?_
  refine z_get C O_0 0 rfl (fun _ h9 => hsT _ (inX10 _ h9)) (by decide) (hsT _ tw_1_205) dX10_wipe_1 rfl ?_
  obtain ⟨v4, h4, h⟩ := e_bd h
  refine z_callVi (As := []) C (c_X7_signs l g h4) rfl O_1 rfl (gcV hsT tw_2_5 cw_X7_signs) rfl rfl rfl hy_X7_signs rfl ⟨Nat.le_of_ble_eq_true rfl, Nat.le_of_ble_eq_true rfl⟩ (Nat.le_of_ble_eq_true rfl) dX10_wipe_4 ?_
  refine z_istore_n [(1, .int v4), (0, .ref (ga g 0))] C dX10_wipe_7 (by decide) rfl ?_
  refine z_aload_n C dX10_wipe_8 rfl ?_
  refine z_get C O_0 6 rfl (fun _ h9 => hsT _ (inX10 _ h9)) (by decide) (hsT _ tw_1_211) dX10_wipe_9 rfl ?_
  refine z_aload_n C dX10_wipe_12 rfl ?_
  refine z_get C O_0 0 rfl (fun _ h9 => hsT _ (inX10 _ h9)) (by decide) (hsT _ tw_1_205) dX10_wipe_13 rfl ?_
  obtain ⟨M16, h16, h⟩ := e_bd h
  refine z_callVv (As := [.ref (ga g 1)]) C (c_X5_remember l g h16) rfl O_7 rfl (gcV hsT tw_2_237 cw_X5_remember) rfl rfl rfl hy_X5_remember rfl ⟨Nat.le_of_ble_eq_true rfl, Nat.le_of_ble_eq_true rfl⟩ (Nat.le_of_ble_eq_true rfl) dX10_wipe_16 ?_
  refine z_aload_n C dX10_wipe_19 rfl ?_
  refine z_get C O_0 0 rfl (fun _ h9 => hsT _ (inX10 _ h9)) (by decide) (hsT _ tw_1_205) dX10_wipe_20 rfl ?_
  obtain ⟨M23, h23, h⟩ := e_bd h
  refine z_callVv (As := []) C (c_X7_clearSigns l g h23) rfl O_1 rfl (gcV hsT tw_3_95 cw_X7_clearSigns) rfl rfl rfl hy_X7_clearSigns rfl ⟨Nat.le_of_ble_eq_true rfl, Nat.le_of_ble_eq_true rfl⟩ (Nat.le_of_ble_eq_true rfl) dX10_wipe_23 ?_
  refine z_iload_n C dX10_wipe_26 rfl ?_
  obtain rfl := Option.some.inj h
  exact z_iret C E dX10_wipe_27
theorem hy_X10_drift : yX10_drift.cls = RX10 ∧ yX10_drift.cls ≠ "java/lang/invoke/MethodHandle" ∧ yX10_drift.cls ≠ "java/lang/invoke/VarHandle" ∧ (parseMethodDescriptor yX10_drift.desc).map (fun d => d.parameters.length) = some 1 := by decide +kernel
def wX10_drift : List Cond := Cond.code yX10_drift cX10_drift 3 (some .int) :: TB
def f_X10_drift_L16 : Nat → MM → Int32 → Int32 → Option (MM)
  | 0, _, _, _ => none
  | n + 1, M, x1, x2 =>
    if x1 ≤ x2 then
      some M
    else
      (f_X7_hasRoom M ).bind fun (v25 : Int32) =>
      if v25 = 0 then
        some M
      else
        (f_X5_remember M ).bind fun (M39 : MM) =>
        (f_X2_addOne M39 ).bind fun (M50 : MM) =>
        f_X10_drift_L16 n M50 x1 (x2 + (1 : Int32))
def f_X10_drift (M : MM) (x1 : Int32) : Option (Int32 × MM) :=
  if x1 < (1 : Int32) then
    some ((-1000000002 : Int32), M)
  else
    if x1 ≤ (16 : Int32) then
      (f_X10_drift_L16 FU M x1 (0 : Int32)).bind fun (w16 : MM) =>
      (f_X10_reckonAll w16 ).bind fun (M60 : MM) =>
      (f_X7_people M60 ).bind fun (v67 : Int32) =>
      some (v67, M60)
    else
      some ((-1000000002 : Int32), M)
set_option maxRecDepth 100000 in
set_option maxHeartbeats 4000000 in
theorem lp_X10_drift_16 {l : Launch} {g : Gx} {x : Cx} (C : zC g x l RX10 cX10_drift wX10_drift (rmm 6 135) 3) {r : MM} : ∀ (n : Nat) (M : MM) (x1 x2 : Int32) , f_X10_drift_L16 n M x1 x2 = some r → zJ g x r 59 [(0, .ref (ga g 0))] [] → zJ g x M 16 [(0, .ref (ga g 0)), (1, .int x1), (2, .int x2)] [] := by
  intro n
  induction n with
  | zero =>
    intro M x1 x2 h hj
    exact absurd h (by simp [f_X10_drift_L16])
  | succ n ih =>
    intro M x1 x2 h hj
    rw [f_X10_drift_L16] at h
    refine z_iload_n C dX10_drift_16 rfl ?_
    refine z_iload_n C dX10_drift_17 rfl ?_
    refine z_icmp_ge 59 C dX10_drift_18 (by decide) (fun hc => ?_) (fun hc => ?_)
    · have h := e_t hc h
      obtain rfl := Option.some.inj h
      exact z_sub [0] rfl hj
    · have h := e_f hc h
      refine z_aload_n C dX10_drift_21 rfl ?_
      refine z_get C O_0 0 rfl (fun _ h9 => hsT _ (inX10 _ h9)) (by decide) (hsT _ tw_1_205) dX10_drift_22 rfl ?_
      obtain ⟨v25, h25, h⟩ := e_bd h
      refine z_callVi (As := []) C (c_X7_hasRoom l g h25) rfl O_1 rfl (gcV hsT tw_2_232 cw_X7_hasRoom) rfl rfl rfl hy_X7_hasRoom rfl ⟨Nat.le_of_ble_eq_true rfl, Nat.le_of_ble_eq_true rfl⟩ (Nat.le_of_ble_eq_true rfl) dX10_drift_25 ?_
      refine z_if_eq 59 C dX10_drift_28 (by decide) (fun hc => ?_) (fun hc => ?_)
      · have h := e_t hc h
        obtain rfl := Option.some.inj h
        exact z_sub [0] rfl hj
      · have h := e_f hc h
        refine z_aload_n C dX10_drift_31 rfl ?_
        refine z_get C O_0 6 rfl (fun _ h9 => hsT _ (inX10 _ h9)) (by decide) (hsT _ tw_1_211) dX10_drift_32 rfl ?_
        refine z_aload_n C dX10_drift_35 rfl ?_
        refine z_get C O_0 0 rfl (fun _ h9 => hsT _ (inX10 _ h9)) (by decide) (hsT _ tw_1_205) dX10_drift_36 rfl ?_
        obtain ⟨M39, h39, h⟩ := e_bd h
        refine z_callVv (As := [.ref (ga g 1)]) C (c_X5_remember l g h39) rfl O_7 rfl (gcV hsT tw_2_237 cw_X5_remember) rfl rfl rfl hy_X5_remember rfl ⟨Nat.le_of_ble_eq_true rfl, Nat.le_of_ble_eq_true rfl⟩ (Nat.le_of_ble_eq_true rfl) dX10_drift_39 ?_
        refine z_aload_n C dX10_drift_42 rfl ?_
        refine z_get C O_0 8 rfl (fun _ h9 => hsT _ (inX10 _ h9)) (by decide) (hsT _ tw_1_213) dX10_drift_43 rfl ?_
        refine z_aload_n C dX10_drift_46 rfl ?_
        refine z_get C O_0 0 rfl (fun _ h9 => hsT _ (inX10 _ h9)) (by decide) (hsT _ tw_1_205) dX10_drift_47 rfl ?_
        obtain ⟨M50, h50, h⟩ := e_bd h
        refine z_callVv (As := [.ref (ga g 1)]) C (c_X2_addOne l g h50) rfl O_9 rfl (gcV hsT tw_3_103 cw_X2_addOne) rfl rfl rfl hy_X2_addOne rfl ⟨Nat.le_of_ble_eq_true rfl, Nat.le_of_ble_eq_true rfl⟩ (Nat.le_of_ble_eq_true rfl) dX10_drift_50 ?_
        refine z_iinc (v := (x2 + (1 : Int32))) [(2, .int (x2 + (1 : Int32))), (0, .ref (ga g 0)), (1, .int x1)] C dX10_drift_53 rfl rfl (by decide) rfl ?_
        refine z_goto 16 C dX10_drift_56 (by decide) ?_
        refine z_sub [1, 2, 0] rfl ?_
        exact ih _ _ _ h hj
set_option maxRecDepth 100000 in
set_option maxHeartbeats 4000000 in
theorem c_X10_drift (l : Launch) (g : Gx) {M : MM} {x1 : Int32} {r : Int32 × MM} (h : f_X10_drift M x1 = some r) : zMi l yX10_drift wX10_drift (rmm 6 135) [.ref (ga g 0), .int x1] g M r.1 r.2 := by
  refine zMi_of .int (by decide) rfl (Nat.le_of_ble_eq_true rfl) rfl rfl ?_
  intro x C E
  show zJ g x M 0 [(0, .ref (ga g 0)), (1, .int x1)] []
  unfold f_X10_drift at h
  refine z_iload_n C dX10_drift_0 rfl ?_
  refine z_iconst (1 : Int32) C dX10_drift_1 (by decide) ?_
  refine z_icmp_lt 11 C dX10_drift_2 (by decide) (fun hc => ?_) (fun hc => ?_)
  · have h := e_t hc h
    refine z_ldc (v := (-1000000002 : Int32)) C (hsT _ tw_2_83) dX10_drift_11 ?_
    obtain rfl := Option.some.inj h
    exact z_iret C E dX10_drift_13
  · have h := e_f hc h
    refine z_iload_n C dX10_drift_5 rfl ?_
    refine z_bipush (16 : Int32) C dX10_drift_6 (by decide) ?_
    refine z_icmp_le 14 C dX10_drift_8 (by decide) (fun hc => ?_) (fun hc => ?_)
    · have h := e_t hc h
      refine z_iconst (0 : Int32) C dX10_drift_14 (by decide) ?_
      refine z_istore_n [(2, .int (0 : Int32)), (0, .ref (ga g 0)), (1, .int x1)] C dX10_drift_15 (by decide) rfl ?_
      obtain ⟨w16, h16, h⟩ := e_bd h
      refine z_sub [1, 2, 0] rfl ?_
      refine lp_X10_drift_16 C _ _ _ _ h16 ?_
      refine z_aload_n C dX10_drift_59 rfl ?_
      obtain ⟨M60, h60, h⟩ := e_bd h
      refine z_callVv (As := []) C (c_X10_reckonAll l g h60) rfl O_0 rfl (gcV hsT tw_3_14 cw_X10_reckonAll) rfl rfl rfl hy_X10_reckonAll rfl ⟨Nat.le_of_ble_eq_true rfl, Nat.le_of_ble_eq_true rfl⟩ (Nat.le_of_ble_eq_true rfl) dX10_drift_60 ?_
      refine z_aload_n C dX10_drift_63 rfl ?_
      refine z_get C O_0 0 rfl (fun _ h9 => hsT _ (inX10 _ h9)) (by decide) (hsT _ tw_1_205) dX10_drift_64 rfl ?_
      obtain ⟨v67, h67, h⟩ := e_bd h
      refine z_callVi (As := []) C (c_X7_people l g h67) rfl O_1 rfl (gcV hsT tw_1_237 cw_X7_people) rfl rfl rfl hy_X7_people rfl ⟨Nat.le_of_ble_eq_true rfl, Nat.le_of_ble_eq_true rfl⟩ (Nat.le_of_ble_eq_true rfl) dX10_drift_67 ?_
      obtain rfl := Option.some.inj h
      exact z_iret C E dX10_drift_70
    · have h := e_f hc h
      refine z_ldc (v := (-1000000002 : Int32)) C (hsT _ tw_2_83) dX10_drift_11 ?_
      obtain rfl := Option.some.inj h
      exact z_iret C E dX10_drift_13
theorem hy_X10_undo : yX10_undo.cls = RX10 ∧ yX10_undo.cls ≠ "java/lang/invoke/MethodHandle" ∧ yX10_undo.cls ≠ "java/lang/invoke/VarHandle" ∧ (parseMethodDescriptor yX10_undo.desc).map (fun d => d.parameters.length) = some 1 := by decide +kernel
def wX10_undo : List Cond := Cond.code yX10_undo cX10_undo 2 (some .int) :: TB
def f_X10_undo (M : MM) (x1 : Int32) : Option (Int32 × MM) :=
  if x1 < (1 : Int32) then
    some ((-1000000002 : Int32), M)
  else
    if x1 ≤ (20 : Int32) then
      if x1 ≤ (M 7 2) then
        (f_X5_stepBack M x1).bind fun (M37 : MM) =>
        (f_X10_reckonAll M37 ).bind fun (M41 : MM) =>
        (f_X7_people M41 ).bind fun (v48 : Int32) =>
        some (v48, M41)
      else
        some ((-1000000003 : Int32), M)
    else
      some ((-1000000002 : Int32), M)
set_option maxRecDepth 100000 in
set_option maxHeartbeats 4000000 in
theorem c_X10_undo (l : Launch) (g : Gx) {M : MM} {x1 : Int32} {r : Int32 × MM} (h : f_X10_undo M x1 = some r) : zMi l yX10_undo wX10_undo (rmm 6 135) [.ref (ga g 0), .int x1] g M r.1 r.2 := by
  refine zMi_of .int (by decide) rfl (Nat.le_of_ble_eq_true rfl) rfl rfl ?_
  intro x C E
  show zJ g x M 0 [(0, .ref (ga g 0)), (1, .int x1)] []
  unfold f_X10_undo at h
  refine z_iload_n C dX10_undo_0 rfl ?_
  refine z_iconst (1 : Int32) C dX10_undo_1 (by decide) ?_
  refine z_icmp_lt 11 C dX10_undo_2 (by decide) (fun hc => ?_) (fun hc => ?_)
  · have h := e_t hc h
    refine z_ldc (v := (-1000000002 : Int32)) C (hsT _ tw_2_83) dX10_undo_11 ?_
    obtain rfl := Option.some.inj h
    exact z_iret C E dX10_undo_13
  · have h := e_f hc h
    refine z_iload_n C dX10_undo_5 rfl ?_
    refine z_bipush (20 : Int32) C dX10_undo_6 (by decide) ?_
    refine z_icmp_le 14 C dX10_undo_8 (by decide) (fun hc => ?_) (fun hc => ?_)
    · have h := e_t hc h
      refine z_iload_n C dX10_undo_14 rfl ?_
      refine z_aload_n C dX10_undo_15 rfl ?_
      refine z_get C O_0 6 rfl (fun _ h9 => hsT _ (inX10 _ h9)) (by decide) (hsT _ tw_1_211) dX10_undo_16 rfl ?_
      refine z_get C O_7 2 rfl (fun _ h9 => hsT _ (inX5 _ h9)) (by decide) (hsT _ tw_1_166) dX10_undo_19 rfl ?_
      refine z_icmp_le 28 C dX10_undo_22 (by decide) (fun hc => ?_) (fun hc => ?_)
      · have h := e_t hc h
        refine z_aload_n C dX10_undo_28 rfl ?_
        refine z_get C O_0 6 rfl (fun _ h9 => hsT _ (inX10 _ h9)) (by decide) (hsT _ tw_1_211) dX10_undo_29 rfl ?_
        refine z_aload_n C dX10_undo_32 rfl ?_
        refine z_get C O_0 0 rfl (fun _ h9 => hsT _ (inX10 _ h9)) (by decide) (hsT _ tw_1_205) dX10_undo_33 rfl ?_
        refine z_iload_n C dX10_undo_36 rfl ?_
        obtain ⟨M37, h37, h⟩ := e_bd h
        refine z_callVv (As := [.ref (ga g 1), .int x1]) C (c_X5_stepBack l g h37) rfl O_7 rfl (gcV hsT tw_3_122 cw_X5_stepBack) rfl rfl rfl hy_X5_stepBack rfl ⟨Nat.le_of_ble_eq_true rfl, Nat.le_of_ble_eq_true rfl⟩ (Nat.le_of_ble_eq_true rfl) dX10_undo_37 ?_
        refine z_aload_n C dX10_undo_40 rfl ?_
        obtain ⟨M41, h41, h⟩ := e_bd h
        refine z_callVv (As := []) C (c_X10_reckonAll l g h41) rfl O_0 rfl (gcV hsT tw_3_14 cw_X10_reckonAll) rfl rfl rfl hy_X10_reckonAll rfl ⟨Nat.le_of_ble_eq_true rfl, Nat.le_of_ble_eq_true rfl⟩ (Nat.le_of_ble_eq_true rfl) dX10_undo_41 ?_
        refine z_aload_n C dX10_undo_44 rfl ?_
        refine z_get C O_0 0 rfl (fun _ h9 => hsT _ (inX10 _ h9)) (by decide) (hsT _ tw_1_205) dX10_undo_45 rfl ?_
        obtain ⟨v48, h48, h⟩ := e_bd h
        refine z_callVi (As := []) C (c_X7_people l g h48) rfl O_1 rfl (gcV hsT tw_1_237 cw_X7_people) rfl rfl rfl hy_X7_people rfl ⟨Nat.le_of_ble_eq_true rfl, Nat.le_of_ble_eq_true rfl⟩ (Nat.le_of_ble_eq_true rfl) dX10_undo_48 ?_
        obtain rfl := Option.some.inj h
        exact z_iret C E dX10_undo_51
      · have h := e_f hc h
        refine z_ldc (v := (-1000000003 : Int32)) C (hsT _ tw_2_183) dX10_undo_25 ?_
        obtain rfl := Option.some.inj h
        exact z_iret C E dX10_undo_27
    · have h := e_f hc h
      refine z_ldc (v := (-1000000002 : Int32)) C (hsT _ tw_2_83) dX10_undo_11 ?_
      obtain rfl := Option.some.inj h
      exact z_iret C E dX10_undo_13
theorem hy_X10_write : yX10_write.cls = RX10 ∧ yX10_write.cls ≠ "java/lang/invoke/MethodHandle" ∧ yX10_write.cls ≠ "java/lang/invoke/VarHandle" ∧ (parseMethodDescriptor yX10_write.desc).map (fun d => d.parameters.length) = some 3 := by decide +kernel
def wX10_write : List Cond := Cond.code yX10_write cX10_write 4 (some .int) :: TB
def f_X10_write (M : MM) (x1 : Int32) (x2 : Int32) (x3 : Int32) : Option (Int32 × MM) :=
  (f_X7_has M x1).bind fun (v5 : Int32) =>
  if v5 = 0 then
    some ((-1000000001 : Int32), M)
  else
    if x2 < 0 then
      some ((-1000000002 : Int32), M)
    else
      if (10 : Int32) ≤ x2 then
        some ((-1000000002 : Int32), M)
      else
        (f_X10_isArms M x3).bind fun (v25 : Int32) =>
        if v25 = 0 then
          some ((-1000000002 : Int32), M)
        else
          if (M 6 3) < (20 : Int32) then
            (f_X0_addEntry M x1 x2 x3).bind fun (M56 : MM) =>
            some ((M56 6 3), M56)
          else
            some ((-1000000004 : Int32), M)
set_option maxRecDepth 100000 in
set_option maxHeartbeats 4000000 in
theorem c_X10_write (l : Launch) (g : Gx) {M : MM} {x1 : Int32} {x2 : Int32} {x3 : Int32} {r : Int32 × MM} (h : f_X10_write M x1 x2 x3 = some r) : zMi l yX10_write wX10_write (rmm 1 23) [.ref (ga g 0), .int x1, .int x2, .int x3] g M r.1 r.2 := by
  refine zMi_of .int (by decide) rfl (Nat.le_of_ble_eq_true rfl) rfl rfl ?_
  intro x C E
  show zJ g x M 0 [(0, .ref (ga g 0)), (1, .int x1), (2, .int x2), (3, .int x3)] []
  unfold f_X10_write at h
  refine z_aload_n C dX10_write_0 rfl ?_
  refine z_get C O_0 0 rfl (fun _ h9 => hsT _ (inX10 _ h9)) (by decide) (hsT _ tw_1_205) dX10_write_1 rfl ?_
  refine z_iload_n C dX10_write_4 rfl ?_
  obtain ⟨v5, h5, h⟩ := e_bd h
  refine z_callVi (As := [.int x1]) C (c_X7_has l g h5) rfl O_1 rfl (gcV hsT tw_2_88 cw_X7_has) rfl rfl rfl hy_X7_has rfl ⟨Nat.le_of_ble_eq_true rfl, Nat.le_of_ble_eq_true rfl⟩ (Nat.le_of_ble_eq_true rfl) dX10_write_5 ?_
  refine z_if_ne 14 C dX10_write_8 (by decide) (fun hc => ?_) (fun hc => ?_)
  · have h := e_f hc h
    refine z_iload_n C dX10_write_14 rfl ?_
    refine z_if_lt 31 C dX10_write_15 (by decide) (fun hc => ?_) (fun hc => ?_)
    · have h := e_t hc h
      refine z_ldc (v := (-1000000002 : Int32)) C (hsT _ tw_2_83) dX10_write_31 ?_
      obtain rfl := Option.some.inj h
      exact z_iret C E dX10_write_33
    · have h := e_f hc h
      refine z_iload_n C dX10_write_18 rfl ?_
      refine z_bipush (10 : Int32) C dX10_write_19 (by decide) ?_
      refine z_icmp_ge 31 C dX10_write_21 (by decide) (fun hc => ?_) (fun hc => ?_)
      · have h := e_t hc h
        refine z_ldc (v := (-1000000002 : Int32)) C (hsT _ tw_2_83) dX10_write_31 ?_
        obtain rfl := Option.some.inj h
        exact z_iret C E dX10_write_33
      · have h := e_f hc h
        refine z_iload_n C dX10_write_24 rfl ?_
        obtain ⟨v25, h25, h⟩ := e_bd h
        refine z_callSi (As := [.int x3]) C (c_X10_isArms l g h25) rfl (gcS hsT tw_2_229 cw_X10_isArms) rfl rfl rfl hy_X10_isArms rfl ⟨Nat.le_of_ble_eq_true rfl, Nat.le_of_ble_eq_true rfl⟩ (Nat.le_of_ble_eq_true rfl) dX10_write_25 ?_
        refine z_if_ne 34 C dX10_write_28 (by decide) (fun hc => ?_) (fun hc => ?_)
        · have h := e_f hc h
          refine z_aload_n C dX10_write_34 rfl ?_
          refine z_get C O_0 5 rfl (fun _ h9 => hsT _ (inX10 _ h9)) (by decide) (hsT _ tw_1_210) dX10_write_35 rfl ?_
          refine z_get C O_6 3 rfl (fun _ h9 => hsT _ (inX0 _ h9)) (by decide) (hsT _ tw_1_131) dX10_write_38 rfl ?_
          refine z_bipush (20 : Int32) C dX10_write_41 (by decide) ?_
          refine z_icmp_lt 49 C dX10_write_43 (by decide) (fun hc => ?_) (fun hc => ?_)
          · have h := e_t hc h
            refine z_aload_n C dX10_write_49 rfl ?_
            refine z_get C O_0 5 rfl (fun _ h9 => hsT _ (inX10 _ h9)) (by decide) (hsT _ tw_1_210) dX10_write_50 rfl ?_
            refine z_iload_n C dX10_write_53 rfl ?_
            refine z_iload_n C dX10_write_54 rfl ?_
            refine z_iload_n C dX10_write_55 rfl ?_
            obtain ⟨M56, h56, h⟩ := e_bd h
            refine z_callVv (As := [.int x1, .int x2, .int x3]) C (c_X0_addEntry l g h56) rfl O_6 rfl (gcV hsT tw_3_134 cw_X0_addEntry) rfl rfl rfl hy_X0_addEntry rfl ⟨Nat.le_of_ble_eq_true rfl, Nat.le_of_ble_eq_true rfl⟩ (Nat.le_of_ble_eq_true rfl) dX10_write_56 ?_
            refine z_aload_n C dX10_write_59 rfl ?_
            refine z_get C O_0 5 rfl (fun _ h9 => hsT _ (inX10 _ h9)) (by decide) (hsT _ tw_1_210) dX10_write_60 rfl ?_
            refine z_get C O_6 3 rfl (fun _ h9 => hsT _ (inX0 _ h9)) (by decide) (hsT _ tw_1_131) dX10_write_63 rfl ?_
            obtain rfl := Option.some.inj h
            exact z_iret C E dX10_write_66
          · have h := e_f hc h
            refine z_ldc (v := (-1000000004 : Int32)) C (hsT _ tw_2_236) dX10_write_46 ?_
            obtain rfl := Option.some.inj h
            exact z_iret C E dX10_write_48
        · have h := e_t hc h
          refine z_ldc (v := (-1000000002 : Int32)) C (hsT _ tw_2_83) dX10_write_31 ?_
          obtain rfl := Option.some.inj h
          exact z_iret C E dX10_write_33
  · have h := e_t hc h
    refine z_ldc (v := (-1000000001 : Int32)) C (hsT _ tw_2_92) dX10_write_11 ?_
    obtain rfl := Option.some.inj h
    exact z_iret C E dX10_write_13
theorem hy_X10_tear : yX10_tear.cls = RX10 ∧ yX10_tear.cls ≠ "java/lang/invoke/MethodHandle" ∧ yX10_tear.cls ≠ "java/lang/invoke/VarHandle" ∧ (parseMethodDescriptor yX10_tear.desc).map (fun d => d.parameters.length) = some 0 := by decide +kernel
def wX10_tear : List Cond := Cond.code yX10_tear cX10_tear 2 (some .int) :: TB
def f_X10_tear (M : MM)  : Option (Int32 × MM) :=
  (z_stf M 6 3 (0 : Int32)).bind fun (M13 : MM) =>
  some ((M 6 3), M13)
set_option maxRecDepth 100000 in
set_option maxHeartbeats 4000000 in
theorem c_X10_tear (l : Launch) (g : Gx) {M : MM}  {r : Int32 × MM} (h : f_X10_tear M  = some r) : zMi l yX10_tear wX10_tear (rmm 0 0) [.ref (ga g 0)] g M r.1 r.2 := by
  refine zMi_of .int (by decide) rfl (Nat.le_of_ble_eq_true rfl) rfl rfl ?_
  intro x C E
  show zJ g x M 0 [(0, .ref (ga g 0))] []
  unfold f_X10_tear at h
  refine z_aload_n C dX10_tear_0 rfl ?_
  refine z_get C O_0 5 rfl (fun _ h9 => hsT _ (inX10 _ h9)) (by decide) (hsT _ tw_1_210) dX10_tear_1 rfl ?_
  refine z_get C O_6 3 rfl (fun _ h9 => hsT _ (inX0 _ h9)) (by decide) (hsT _ tw_1_131) dX10_tear_4 rfl ?_
  refine z_istore_n [(1, .int (M 6 3)), (0, .ref (ga g 0))] C dX10_tear_7 (by decide) rfl ?_
  refine z_aload_n C dX10_tear_8 rfl ?_
  refine z_get C O_0 5 rfl (fun _ h9 => hsT _ (inX10 _ h9)) (by decide) (hsT _ tw_1_210) dX10_tear_9 rfl ?_
  refine z_iconst (0 : Int32) C dX10_tear_12 (by decide) ?_
  obtain ⟨M13, h13, h⟩ := e_bd h
  refine z_puti tyX0 C O_6 3 O_6_3 rfl (fun _ h9 => hsT _ (inX0 _ h9)) tyX0_ok nmX0 (by decide) rfl (Nat.le_of_ble_eq_true rfl) (hsT _ tw_1_131) dX10_tear_13 rfl h13 ?_
  refine z_iload_n C dX10_tear_16 rfl ?_
  obtain rfl := Option.some.inj h
  exact z_iret C E dX10_tear_17
theorem hy_X10_seed : yX10_seed.cls = RX10 ∧ yX10_seed.cls ≠ "java/lang/invoke/MethodHandle" ∧ yX10_seed.cls ≠ "java/lang/invoke/VarHandle" ∧ (parseMethodDescriptor yX10_seed.desc).map (fun d => d.parameters.length) = some 1 := by decide +kernel
def wX10_seed : List Cond := Cond.code yX10_seed cX10_seed 3 (some .int) :: TB
def f_X10_seed (M : MM) (x1 : Int32) : Option (Int32 × MM) :=
  if 0 ≤ x1 then
    (z_stf M 9 0 x1).bind fun (M20 : MM) =>
    some ((M 9 0), M20)
  else
    some ((-1000000002 : Int32), M)
set_option maxRecDepth 100000 in
set_option maxHeartbeats 4000000 in
theorem c_X10_seed (l : Launch) (g : Gx) {M : MM} {x1 : Int32} {r : Int32 × MM} (h : f_X10_seed M x1 = some r) : zMi l yX10_seed wX10_seed (rmm 0 0) [.ref (ga g 0), .int x1] g M r.1 r.2 := by
  refine zMi_of .int (by decide) rfl (Nat.le_of_ble_eq_true rfl) rfl rfl ?_
  intro x C E
  show zJ g x M 0 [(0, .ref (ga g 0)), (1, .int x1)] []
  unfold f_X10_seed at h
  refine z_iload_n C dX10_seed_0 rfl ?_
  refine z_if_ge 7 C dX10_seed_1 (by decide) (fun hc => ?_) (fun hc => ?_)
  · have h := e_t hc h
    refine z_aload_n C dX10_seed_7 rfl ?_
    refine z_get C O_0 8 rfl (fun _ h9 => hsT _ (inX10 _ h9)) (by decide) (hsT _ tw_1_213) dX10_seed_8 rfl ?_
    refine z_get C O_9 0 rfl (fun _ h9 => hsT _ (inX2 _ h9)) (by decide) (hsT _ tw_1_201) dX10_seed_11 rfl ?_
    refine z_istore_n [(2, .int (M 9 0)), (0, .ref (ga g 0)), (1, .int x1)] C dX10_seed_14 (by decide) rfl ?_
    refine z_aload_n C dX10_seed_15 rfl ?_
    refine z_get C O_0 8 rfl (fun _ h9 => hsT _ (inX10 _ h9)) (by decide) (hsT _ tw_1_213) dX10_seed_16 rfl ?_
    refine z_iload_n C dX10_seed_19 rfl ?_
    obtain ⟨M20, h20, h⟩ := e_bd h
    refine z_puti tyX2 C O_9 0 O_9_0 rfl (fun _ h9 => hsT _ (inX2 _ h9)) tyX2_ok nmX2 (by decide) rfl (Nat.le_of_ble_eq_true rfl) (hsT _ tw_1_201) dX10_seed_20 rfl h20 ?_
    refine z_iload_n C dX10_seed_23 rfl ?_
    obtain rfl := Option.some.inj h
    exact z_iret C E dX10_seed_24
  · have h := e_f hc h
    refine z_ldc (v := (-1000000002 : Int32)) C (hsT _ tw_2_83) dX10_seed_4 ?_
    obtain rfl := Option.some.inj h
    exact z_iret C E dX10_seed_6
theorem hy_X10_keep : yX10_keep.cls = RX10 ∧ yX10_keep.cls ≠ "java/lang/invoke/MethodHandle" ∧ yX10_keep.cls ≠ "java/lang/invoke/VarHandle" ∧ (parseMethodDescriptor yX10_keep.desc).map (fun d => d.parameters.length) = some 1 := by decide +kernel
def wX10_keep : List Cond := Cond.code yX10_keep cX10_keep 2 (some .int) :: TB
def f_X10_keep (M : MM) (x1 : Int32) : Option (Int32 × MM) :=
  if x1 < 0 then
    some ((-1000000001 : Int32), M)
  else
    if x1 < (2 : Int32) then
      (f_X3_store M x1).bind fun (M25 : MM) =>
      (z_stf M25 7 2 (0 : Int32)).bind fun (M33 : MM) =>
      some ((1 : Int32), M33)
    else
      some ((-1000000001 : Int32), M)
set_option maxRecDepth 100000 in
set_option maxHeartbeats 4000000 in
theorem c_X10_keep (l : Launch) (g : Gx) {M : MM} {x1 : Int32} {r : Int32 × MM} (h : f_X10_keep M x1 = some r) : zMi l yX10_keep wX10_keep (rmm 3 75) [.ref (ga g 0), .int x1] g M r.1 r.2 := by
  refine zMi_of .int (by decide) rfl (Nat.le_of_ble_eq_true rfl) rfl rfl ?_
  intro x C E
  show zJ g x M 0 [(0, .ref (ga g 0)), (1, .int x1)] []
  unfold f_X10_keep at h
  refine z_iload_n C dX10_keep_0 rfl ?_
  refine z_if_lt 9 C dX10_keep_1 (by decide) (fun hc => ?_) (fun hc => ?_)
  · have h := e_t hc h
    refine z_ldc (v := (-1000000001 : Int32)) C (hsT _ tw_2_92) dX10_keep_9 ?_
    obtain rfl := Option.some.inj h
    exact z_iret C E dX10_keep_11
  · have h := e_f hc h
    refine z_iload_n C dX10_keep_4 rfl ?_
    refine z_iconst (2 : Int32) C dX10_keep_5 (by decide) ?_
    refine z_icmp_lt 12 C dX10_keep_6 (by decide) (fun hc => ?_) (fun hc => ?_)
    · have h := e_t hc h
      refine z_aload_n C dX10_keep_12 rfl ?_
      refine z_get C O_0 7 rfl (fun _ h9 => hsT _ (inX10 _ h9)) (by decide) (hsT _ tw_1_212) dX10_keep_13 rfl ?_
      refine z_iload_n C dX10_keep_16 rfl ?_
      refine z_aload_n C dX10_keep_17 rfl ?_
      refine z_get C O_0 0 rfl (fun _ h9 => hsT _ (inX10 _ h9)) (by decide) (hsT _ tw_1_205) dX10_keep_18 rfl ?_
      refine z_aload_n C dX10_keep_21 rfl ?_
      refine z_get C O_0 8 rfl (fun _ h9 => hsT _ (inX10 _ h9)) (by decide) (hsT _ tw_1_213) dX10_keep_22 rfl ?_
      obtain ⟨M25, h25, h⟩ := e_bd h
      refine z_callVv (As := [.int x1, .ref (ga g 1), .ref (ga g 9)]) C (c_X3_store l g h25) rfl O_8 rfl (gcV hsT tw_3_150 cw_X3_store) rfl rfl rfl hy_X3_store rfl ⟨Nat.le_of_ble_eq_true rfl, Nat.le_of_ble_eq_true rfl⟩ (Nat.le_of_ble_eq_true rfl) dX10_keep_25 ?_
      refine z_aload_n C dX10_keep_28 rfl ?_
      refine z_get C O_0 6 rfl (fun _ h9 => hsT _ (inX10 _ h9)) (by decide) (hsT _ tw_1_211) dX10_keep_29 rfl ?_
      refine z_iconst (0 : Int32) C dX10_keep_32 (by decide) ?_
      obtain ⟨M33, h33, h⟩ := e_bd h
      refine z_puti tyX5 C O_7 2 O_7_2 rfl (fun _ h9 => hsT _ (inX5 _ h9)) tyX5_ok nmX5 (by decide) rfl (Nat.le_of_ble_eq_true rfl) (hsT _ tw_1_166) dX10_keep_33 rfl h33 ?_
      refine z_iconst (1 : Int32) C dX10_keep_36 (by decide) ?_
      obtain rfl := Option.some.inj h
      exact z_iret C E dX10_keep_37
    · have h := e_f hc h
      refine z_ldc (v := (-1000000001 : Int32)) C (hsT _ tw_2_92) dX10_keep_9 ?_
      obtain rfl := Option.some.inj h
      exact z_iret C E dX10_keep_11
theorem hy_X10_goBack : yX10_goBack.cls = RX10 ∧ yX10_goBack.cls ≠ "java/lang/invoke/MethodHandle" ∧ yX10_goBack.cls ≠ "java/lang/invoke/VarHandle" ∧ (parseMethodDescriptor yX10_goBack.desc).map (fun d => d.parameters.length) = some 1 := by decide +kernel
def wX10_goBack : List Cond := Cond.code yX10_goBack cX10_goBack 2 (some .int) :: TB
def f_X10_goBack (M : MM) (x1 : Int32) : Option (Int32 × MM) :=
  if x1 < 0 then
    some ((-1000000001 : Int32), M)
  else
    if x1 < (2 : Int32) then
      (f_X3_isStored M x1).bind fun (v17 : Int32) =>
      if v17 = 0 then
        some ((-1000000003 : Int32), M)
      else
        (f_X3_restore M x1).bind fun (M39 : MM) =>
        (z_stf M39 7 2 (0 : Int32)).bind fun (M47 : MM) =>
        (f_X10_reckonAll M47 ).bind fun (M51 : MM) =>
        some ((1 : Int32), M51)
    else
      some ((-1000000001 : Int32), M)
set_option maxRecDepth 100000 in
set_option maxHeartbeats 4000000 in
theorem c_X10_goBack (l : Launch) (g : Gx) {M : MM} {x1 : Int32} {r : Int32 × MM} (h : f_X10_goBack M x1 = some r) : zMi l yX10_goBack wX10_goBack (rmm 6 135) [.ref (ga g 0), .int x1] g M r.1 r.2 := by
  refine zMi_of .int (by decide) rfl (Nat.le_of_ble_eq_true rfl) rfl rfl ?_
  intro x C E
  show zJ g x M 0 [(0, .ref (ga g 0)), (1, .int x1)] []
  unfold f_X10_goBack at h
  refine z_iload_n C dX10_goBack_0 rfl ?_
  refine z_if_lt 9 C dX10_goBack_1 (by decide) (fun hc => ?_) (fun hc => ?_)
  · have h := e_t hc h
    refine z_ldc (v := (-1000000001 : Int32)) C (hsT _ tw_2_92) dX10_goBack_9 ?_
    obtain rfl := Option.some.inj h
    exact z_iret C E dX10_goBack_11
  · have h := e_f hc h
    refine z_iload_n C dX10_goBack_4 rfl ?_
    refine z_iconst (2 : Int32) C dX10_goBack_5 (by decide) ?_
    refine z_icmp_lt 12 C dX10_goBack_6 (by decide) (fun hc => ?_) (fun hc => ?_)
    · have h := e_t hc h
      refine z_aload_n C dX10_goBack_12 rfl ?_
      refine z_get C O_0 7 rfl (fun _ h9 => hsT _ (inX10 _ h9)) (by decide) (hsT _ tw_1_212) dX10_goBack_13 rfl ?_
      refine z_iload_n C dX10_goBack_16 rfl ?_
      obtain ⟨v17, h17, h⟩ := e_bd h
      refine z_callVi (As := [.int x1]) C (c_X3_isStored l g h17) rfl O_8 rfl (gcV hsT tw_3_159 cw_X3_isStored) rfl rfl rfl hy_X3_isStored rfl ⟨Nat.le_of_ble_eq_true rfl, Nat.le_of_ble_eq_true rfl⟩ (Nat.le_of_ble_eq_true rfl) dX10_goBack_17 ?_
      refine z_if_ne 26 C dX10_goBack_20 (by decide) (fun hc => ?_) (fun hc => ?_)
      · have h := e_f hc h
        refine z_aload_n C dX10_goBack_26 rfl ?_
        refine z_get C O_0 7 rfl (fun _ h9 => hsT _ (inX10 _ h9)) (by decide) (hsT _ tw_1_212) dX10_goBack_27 rfl ?_
        refine z_iload_n C dX10_goBack_30 rfl ?_
        refine z_aload_n C dX10_goBack_31 rfl ?_
        refine z_get C O_0 0 rfl (fun _ h9 => hsT _ (inX10 _ h9)) (by decide) (hsT _ tw_1_205) dX10_goBack_32 rfl ?_
        refine z_aload_n C dX10_goBack_35 rfl ?_
        refine z_get C O_0 8 rfl (fun _ h9 => hsT _ (inX10 _ h9)) (by decide) (hsT _ tw_1_213) dX10_goBack_36 rfl ?_
        obtain ⟨M39, h39, h⟩ := e_bd h
        refine z_callVv (As := [.int x1, .ref (ga g 1), .ref (ga g 9)]) C (c_X3_restore l g h39) rfl O_8 rfl (gcV hsT tw_3_163 cw_X3_restore) rfl rfl rfl hy_X3_restore rfl ⟨Nat.le_of_ble_eq_true rfl, Nat.le_of_ble_eq_true rfl⟩ (Nat.le_of_ble_eq_true rfl) dX10_goBack_39 ?_
        refine z_aload_n C dX10_goBack_42 rfl ?_
        refine z_get C O_0 6 rfl (fun _ h9 => hsT _ (inX10 _ h9)) (by decide) (hsT _ tw_1_211) dX10_goBack_43 rfl ?_
        refine z_iconst (0 : Int32) C dX10_goBack_46 (by decide) ?_
        obtain ⟨M47, h47, h⟩ := e_bd h
        refine z_puti tyX5 C O_7 2 O_7_2 rfl (fun _ h9 => hsT _ (inX5 _ h9)) tyX5_ok nmX5 (by decide) rfl (Nat.le_of_ble_eq_true rfl) (hsT _ tw_1_166) dX10_goBack_47 rfl h47 ?_
        refine z_aload_n C dX10_goBack_50 rfl ?_
        obtain ⟨M51, h51, h⟩ := e_bd h
        refine z_callVv (As := []) C (c_X10_reckonAll l g h51) rfl O_0 rfl (gcV hsT tw_3_14 cw_X10_reckonAll) rfl rfl rfl hy_X10_reckonAll rfl ⟨Nat.le_of_ble_eq_true rfl, Nat.le_of_ble_eq_true rfl⟩ (Nat.le_of_ble_eq_true rfl) dX10_goBack_51 ?_
        refine z_iconst (1 : Int32) C dX10_goBack_54 (by decide) ?_
        obtain rfl := Option.some.inj h
        exact z_iret C E dX10_goBack_55
      · have h := e_t hc h
        refine z_ldc (v := (-1000000003 : Int32)) C (hsT _ tw_2_183) dX10_goBack_23 ?_
        obtain rfl := Option.some.inj h
        exact z_iret C E dX10_goBack_25
    · have h := e_f hc h
      refine z_ldc (v := (-1000000001 : Int32)) C (hsT _ tw_2_92) dX10_goBack_9 ?_
      obtain rfl := Option.some.inj h
      exact z_iret C E dX10_goBack_11
