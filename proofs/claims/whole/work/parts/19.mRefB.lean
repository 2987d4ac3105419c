theorem hy_X11_heirs : yX11_heirs.cls = RX11 ∧ yX11_heirs.cls ≠ "java/lang/invoke/MethodHandle" ∧ yX11_heirs.cls ≠ "java/lang/invoke/VarHandle" ∧ (parseMethodDescriptor yX11_heirs.desc).map (fun d => d.parameters.length) = some 0 := by decide +kernel
def wX11_heirs : List Cond := Cond.code yX11_heirs cX11_heirs 3 (some .int) :: TB
def f_X11_heirs_L4 : Nat → MM → Int32 → Int32 → Option (Int32)
  | 0, _, _, _ => none
  | n + 1, M, x1, x2 =>
    (z_ld M 32 3243 (0 : Int32)).bind fun (v10 : Int32) =>
    if v10 ≤ x2 then
      some x1
    else
      (f_X11_isHeir M x2).bind fun (v17 : Int32) =>
      (if v17 = 0 then
        some (0 : Int32)
      else
        some ((1 : Int32) <<< (x2 &&& 31))
      ).bind fun (j20 : Int32) =>
        f_X11_heirs_L4 n M (x1 ||| j20) (x2 + (1 : Int32))
def f_X11_heirs (M : MM)  : Option Int32 :=
  (f_X11_heirs_L4 FU M (0 : Int32) (0 : Int32)).bind fun (w4 : Int32) =>
  some w4
set_option maxRecDepth 100000 in
set_option maxHeartbeats 4000000 in
theorem lp_X11_heirs_4 {l : Launch} {g : Gx} {x : Cx} (C : zC g x l RX11 cX11_heirs wX11_heirs (rmm 4 90) 3) {r : Int32} : ∀ (n : Nat) (M : MM) (x1 x2 : Int32) , f_X11_heirs_L4 n M x1 x2 = some r → zJ g x M 38 [(1, .int r)] [] → zJ g x M 4 [(0, .ref (ga g 31)), (1, .int x1), (2, .int x2)] [] := by
  intro n
  induction n with
  | zero =>
    intro M x1 x2 h hj
    exact absurd h (by simp [f_X11_heirs_L4])
  | succ n ih =>
    intro M x1 x2 h hj
    rw [f_X11_heirs_L4] at h
    refine z_iload_n C dX11_heirs_4 rfl ?_
    refine z_aload_n C dX11_heirs_5 rfl ?_
    refine z_get C O_31 0 rfl (fun _ h9 => hsT _ (inX11 _ h9)) (by decide) (hsT _ tw_3_175) dX11_heirs_6 rfl ?_
    refine z_iconst (0 : Int32) C dX11_heirs_9 (by decide) ?_
    obtain ⟨v10, h10, h⟩ := e_bd h
    refine z_iald C I_32 h10 dX11_heirs_10 ?_
    refine z_icmp_ge 38 C dX11_heirs_11 (by decide) (fun hc => ?_) (fun hc => ?_)
    · have h := e_t hc h
      obtain rfl := Option.some.inj h
      exact z_sub [1] rfl hj
    · have h := e_f hc h
      refine z_iload_n C dX11_heirs_14 rfl ?_
      refine z_aload_n C dX11_heirs_15 rfl ?_
      refine z_iload_n C dX11_heirs_16 rfl ?_
      obtain ⟨v17, h17, h⟩ := e_bd h
      refine z_callVi (As := [.int x2]) C (c_X11_isHeir l g h17) rfl O_31 rfl (gcV hsT tw_3_238 cw_X11_isHeir) rfl rfl rfl hy_X11_isHeir rfl ⟨Nat.le_of_ble_eq_true rfl, Nat.le_of_ble_eq_true rfl⟩ (Nat.le_of_ble_eq_true rfl) dX11_heirs_17 ?_
      obtain ⟨j20, h20, h⟩ := e_bd h
      have hj20 : zJ g x M 30 [(0, .ref (ga g 31)), (2, .int x2)] [.int j20, .int x1] := by
        refine z_ior C dX11_heirs_30 ?_
        refine z_istore_n [(1, .int (x1 ||| j20)), (0, .ref (ga g 31)), (2, .int x2)] C dX11_heirs_31 (by decide) rfl ?_
        refine z_iinc (v := (x2 + (1 : Int32))) [(2, .int (x2 + (1 : Int32))), (1, .int (x1 ||| j20)), (0, .ref (ga g 31))] C dX11_heirs_32 rfl rfl (by decide) rfl ?_
        refine z_goto 4 C dX11_heirs_35 (by decide) ?_
        refine z_sub [2, 1, 0] rfl ?_
        exact ih _ _ _ h hj
      have h := h20
      refine z_if_eq 29 C dX11_heirs_20 (by decide) (fun hc => ?_) (fun hc => ?_)
      · have h := e_t hc h
        refine z_iconst (0 : Int32) C dX11_heirs_29 (by decide) ?_
        obtain rfl := Option.some.inj h
        exact z_sub [0, 2] rfl hj20
      · have h := e_f hc h
        refine z_iconst (1 : Int32) C dX11_heirs_23 (by decide) ?_
        refine z_iload_n C dX11_heirs_24 rfl ?_
        refine z_ishl C dX11_heirs_25 ?_
        refine z_goto 30 C dX11_heirs_26 (by decide) ?_
        obtain rfl := Option.some.inj h
        exact z_sub [0, 2] rfl hj20
set_option maxRecDepth 100000 in
set_option maxHeartbeats 4000000 in
theorem c_X11_heirs (l : Launch) (g : Gx) {M : MM}  {r : Int32} (h : f_X11_heirs M  = some r) : zMi l yX11_heirs wX11_heirs (rmm 4 90) [.ref (ga g 31)] g M r M := by
  refine zMi_of .int (by decide) rfl (Nat.le_of_ble_eq_true rfl) rfl rfl ?_
  intro x C E
  show zJ g x M 0 [(0, .ref (ga g 31))] []
  unfold f_X11_heirs at h
  refine z_iconst (0 : Int32) C dX11_heirs_0 (by decide) ?_
  refine z_istore_n [(1, .int (0 : Int32)), (0, .ref (ga g 31))] C dX11_heirs_1 (by decide) rfl ?_
  refine z_iconst (0 : Int32) C dX11_heirs_2 (by decide) ?_
  refine z_istore_n [(2, .int (0 : Int32)), (1, .int (0 : Int32)), (0, .ref (ga g 31))] C dX11_heirs_3 (by decide) rfl ?_
  obtain ⟨w4, h4, h⟩ := e_bd h
  refine z_sub [2, 1, 0] rfl ?_
  refine lp_X11_heirs_4 C _ _ _ _ h4 ?_
  refine z_iload_n C dX11_heirs_38 rfl ?_
  obtain rfl := Option.some.inj h
  exact z_iret C E dX11_heirs_39
theorem hy_X11_wrong : yX11_wrong.cls = RX11 ∧ yX11_wrong.cls ≠ "java/lang/invoke/MethodHandle" ∧ yX11_wrong.cls ≠ "java/lang/invoke/VarHandle" ∧ (parseMethodDescriptor yX11_wrong.desc).map (fun d => d.parameters.length) = some 0 := by decide +kernel
def wX11_wrong : List Cond := Cond.code yX11_wrong cX11_wrong 3 (some .int) :: TB
def f_X11_wrong_L6 : Nat → MM → Int32 → Option ((Int32 × MM))
  | 0, _, _ => none
  | n + 1, M, x1 =>
    if (M 31 5) ≤ x1 then
      some ((-1 : Int32), M)
    else
      (z_ld M 35 20 x1).bind fun (v19 : Int32) =>
      (f_X11_isOne M v19).bind fun (v23 : Int32) =>
      if v23 = 0 then
        some (x1, M)
      else
        (z_ld M 36 20 x1).bind fun (v34 : Int32) =>
        (z_ld M 38 17 v19).bind fun (v40 : Int32) =>
        if v40 ≤ v34 then
          some (x1, M)
        else
          (z_ld M 36 20 x1).bind fun (v57 : Int32) =>
          (z_ld M 39 170 (((10 : Int32) * v19) + v57)).bind fun (v59 : Int32) =>
          (z_ld M 37 20 x1).bind fun (v65 : Int32) =>
          if v59 = v65 then
            f_X11_wrong_L6 n M (x1 + (1 : Int32))
          else
            some (x1, M)
def f_X11_wrong (M : MM)  : Option (Int32 × MM) :=
  (f_X11_lays M ).bind fun (M1 : MM) =>
  f_X11_wrong_L6 FU M1 (0 : Int32)
set_option maxRecDepth 100000 in
set_option maxHeartbeats 4000000 in
theorem lp_X11_wrong_6 {l : Launch} {g : Gx} {x : Cx} (C : zC g x l RX11 cX11_wrong wX11_wrong (rmm 6 136) 3) {r : (Int32 × MM)} : ∀ (n : Nat) (M : MM) (x1 : Int32) , f_X11_wrong_L6 n M x1 = some r → zRi g x .int r.1 r.2 → zJ g x M 6 [(0, .ref (ga g 31)), (1, .int x1)] [] := by
  intro n
  induction n with
  | zero =>
    intro M x1 h E
    exact absurd h (by simp [f_X11_wrong_L6])
  | succ n ih =>
    intro M x1 h E
    rw [f_X11_wrong_L6] at h
    refine z_iload_n C dX11_wrong_6 rfl ?_
    refine z_aload_n C dX11_wrong_7 rfl ?_
    refine z_get C O_31 5 rfl (fun _ h9 => hsT _ (inX11 _ h9)) (by decide) (hsT _ tw_3_180) dX11_wrong_8 rfl ?_
    refine z_icmp_ge 77 C dX11_wrong_11 (by decide) (fun hc => ?_) (fun hc => ?_)
    · have h := e_t hc h
      refine z_iconst (-1 : Int32) C dX11_wrong_77 (by decide) ?_
      obtain rfl := Option.some.inj h
      exact z_iret C E dX11_wrong_78
    · have h := e_f hc h
      refine z_aload_n C dX11_wrong_14 rfl ?_
      refine z_get C O_31 6 rfl (fun _ h9 => hsT _ (inX11 _ h9)) (by decide) (hsT _ tw_3_181) dX11_wrong_15 rfl ?_
      refine z_iload_n C dX11_wrong_18 rfl ?_
      obtain ⟨v19, h19, h⟩ := e_bd h
      refine z_iald C I_35 h19 dX11_wrong_19 ?_
      refine z_istore_n [(2, .int v19), (0, .ref (ga g 31)), (1, .int x1)] C dX11_wrong_20 (by decide) rfl ?_
      refine z_aload_n C dX11_wrong_21 rfl ?_
      refine z_iload_n C dX11_wrong_22 rfl ?_
      obtain ⟨v23, h23, h⟩ := e_bd h
      refine z_callVi (As := [.int v19]) C (c_X11_isOne l g h23) rfl O_31 rfl (gcV hsT tw_4_6 cw_X11_isOne) rfl rfl rfl hy_X11_isOne rfl ⟨Nat.le_of_ble_eq_true rfl, Nat.le_of_ble_eq_true rfl⟩ (Nat.le_of_ble_eq_true rfl) dX11_wrong_23 ?_
      refine z_if_eq 69 C dX11_wrong_26 (by decide) (fun hc => ?_) (fun hc => ?_)
      · have h := e_t hc h
        refine z_iload_n C dX11_wrong_69 rfl ?_
        obtain rfl := Option.some.inj h
        exact z_iret C E dX11_wrong_70
      · have h := e_f hc h
        refine z_aload_n C dX11_wrong_29 rfl ?_
        refine z_get C O_31 7 rfl (fun _ h9 => hsT _ (inX11 _ h9)) (by decide) (hsT _ tw_3_182) dX11_wrong_30 rfl ?_
        refine z_iload_n C dX11_wrong_33 rfl ?_
        obtain ⟨v34, h34, h⟩ := e_bd h
        refine z_iald C I_36 h34 dX11_wrong_34 ?_
        refine z_aload_n C dX11_wrong_35 rfl ?_
        refine z_get C O_31 9 rfl (fun _ h9 => hsT _ (inX11 _ h9)) (by decide) (hsT _ tw_3_184) dX11_wrong_36 rfl ?_
        refine z_iload_n C dX11_wrong_39 rfl ?_
        obtain ⟨v40, h40, h⟩ := e_bd h
        refine z_iald C I_38 h40 dX11_wrong_40 ?_
        refine z_icmp_ge 69 C dX11_wrong_41 (by decide) (fun hc => ?_) (fun hc => ?_)
        · have h := e_t hc h
          refine z_iload_n C dX11_wrong_69 rfl ?_
          obtain rfl := Option.some.inj h
          exact z_iret C E dX11_wrong_70
        · have h := e_f hc h
          refine z_aload_n C dX11_wrong_44 rfl ?_
          refine z_get C O_31 10 rfl (fun _ h9 => hsT _ (inX11 _ h9)) (by decide) (hsT _ tw_3_185) dX11_wrong_45 rfl ?_
          refine z_bipush (10 : Int32) C dX11_wrong_48 (by decide) ?_
          refine z_iload_n C dX11_wrong_50 rfl ?_
          refine z_imul C dX11_wrong_51 ?_
          refine z_aload_n C dX11_wrong_52 rfl ?_
          refine z_get C O_31 7 rfl (fun _ h9 => hsT _ (inX11 _ h9)) (by decide) (hsT _ tw_3_182) dX11_wrong_53 rfl ?_
          refine z_iload_n C dX11_wrong_56 rfl ?_
          obtain ⟨v57, h57, h⟩ := e_bd h
          refine z_iald C I_36 h57 dX11_wrong_57 ?_
          refine z_iadd C dX11_wrong_58 ?_
          obtain ⟨v59, h59, h⟩ := e_bd h
          refine z_iald C I_39 h59 dX11_wrong_59 ?_
          refine z_aload_n C dX11_wrong_60 rfl ?_
          refine z_get C O_31 8 rfl (fun _ h9 => hsT _ (inX11 _ h9)) (by decide) (hsT _ tw_3_183) dX11_wrong_61 rfl ?_
          refine z_iload_n C dX11_wrong_64 rfl ?_
          obtain ⟨v65, h65, h⟩ := e_bd h
          refine z_iald C I_37 h65 dX11_wrong_65 ?_
          refine z_icmp_eq 71 C dX11_wrong_66 (by decide) (fun hc => ?_) (fun hc => ?_)
          · have h := e_t hc h
            refine z_iinc (v := (x1 + (1 : Int32))) [(1, .int (x1 + (1 : Int32))), (2, .int v19), (0, .ref (ga g 31))] C dX11_wrong_71 rfl rfl (by decide) rfl ?_
            refine z_goto 6 C dX11_wrong_74 (by decide) ?_
            refine z_sub [2, 0] rfl ?_
            exact ih _ _ h E
          · have h := e_f hc h
            refine z_iload_n C dX11_wrong_69 rfl ?_
            obtain rfl := Option.some.inj h
            exact z_iret C E dX11_wrong_70
set_option maxRecDepth 100000 in
set_option maxHeartbeats 4000000 in
theorem c_X11_wrong (l : Launch) (g : Gx) {M : MM}  {r : Int32 × MM} (h : f_X11_wrong M  = some r) : zMi l yX11_wrong wX11_wrong (rmm 6 136) [.ref (ga g 31)] g M r.1 r.2 := by
  refine zMi_of .int (by decide) rfl (Nat.le_of_ble_eq_true rfl) rfl rfl ?_
  intro x C E
  show zJ g x M 0 [(0, .ref (ga g 31))] []
  unfold f_X11_wrong at h
  refine z_aload_n C dX11_wrong_0 rfl ?_
  obtain ⟨M1, h1, h⟩ := e_bd h
  refine z_callVv (As := []) C (c_X11_lays l g h1) rfl O_31 rfl (gcV hsT tw_4_17 cw_X11_lays) rfl rfl rfl hy_X11_lays rfl ⟨Nat.le_of_ble_eq_true rfl, Nat.le_of_ble_eq_true rfl⟩ (Nat.le_of_ble_eq_true rfl) dX11_wrong_1 ?_
  refine z_iconst (0 : Int32) C dX11_wrong_4 (by decide) ?_
  refine z_istore_n [(1, .int (0 : Int32)), (0, .ref (ga g 31))] C dX11_wrong_5 (by decide) rfl ?_
  refine z_sub [1, 0] rfl ?_
  exact lp_X11_wrong_6 C _ _ _ h E
theorem hy_X11_told : yX11_told.cls = RX11 ∧ yX11_told.cls ≠ "java/lang/invoke/MethodHandle" ∧ yX11_told.cls ≠ "java/lang/invoke/VarHandle" ∧ (parseMethodDescriptor yX11_told.desc).map (fun d => d.parameters.length) = some 1 := by decide +kernel
def wX11_told : List Cond := Cond.code yX11_told cX11_told 2 (some .int) :: TB
def f_X11_told (M : MM) (x1 : Int32) : Option (Int32 × MM) :=
  if x1 = (0 : Int32) then
    (z_ld M 32 3243 (0 : Int32)).bind fun (v69 : Int32) =>
    some (v69, M)
  else
  if x1 = (1 : Int32) then
    (z_ld M 32 3243 (1 : Int32)).bind fun (v76 : Int32) =>
    some (v76, M)
  else
  if x1 = (2 : Int32) then
    (z_ld M 32 3243 (2 : Int32)).bind fun (v83 : Int32) =>
    some (v83, M)
  else
  if x1 = (3 : Int32) then
    (f_X11_heirs M ).bind fun (v86 : Int32) =>
    some (v86, M)
  else
  if x1 = (4 : Int32) then
    (f_X11_coats M ).bind fun (s91 : Int32 × MM) =>
    some (s91.1, s91.2)
  else
  if x1 = (5 : Int32) then
    (f_X11_narrows M ).bind fun (s96 : Int32 × MM) =>
    (if s96.1 = 0 then
      some (1 : Int32)
    else
      some (0 : Int32)
    ).bind fun (j99 : Int32) =>
      some (j99, s96.2)
  else
  if x1 = (6 : Int32) then
    (f_X11_meant M (1 : Int32)).bind fun (s110 : Int32 × MM) =>
    some (s110.1, s110.2)
  else
  if x1 = (7 : Int32) then
    (f_X11_meant M (0 : Int32)).bind fun (s116 : Int32 × MM) =>
    some (s116.1, s116.2)
  else
  if x1 = (8 : Int32) then
    (f_X11_likely M ).bind fun (s121 : Int32 × MM) =>
    some (s121.1, s121.2)
  else
  if x1 = (9 : Int32) then
    some ((M 31 5), M)
  else
  if x1 = (10 : Int32) then
    (f_X11_wrong M ).bind fun (s131 : Int32 × MM) =>
    some (s131.1, s131.2)
  else
  if x1 = (11 : Int32) then
    some ((M 31 3), M)
  else
  some ((-1000000002 : Int32), M)
set_option maxRecDepth 100000 in
set_option maxHeartbeats 4000000 in
theorem c_X11_told (l : Launch) (g : Gx) {M : MM} {x1 : Int32} {r : Int32 × MM} (h : f_X11_told M x1 = some r) : zMi l yX11_told wX11_told (rmm 7 160) [.ref (ga g 31), .int x1] g M r.1 r.2 := by
  refine zMi_of .int (by decide) rfl (Nat.le_of_ble_eq_true rfl) rfl rfl ?_
  intro x C E
  show zJ g x M 0 [(0, .ref (ga g 31)), (1, .int x1)] []
  unfold f_X11_told at h
  refine z_iload_n C dX11_told_0 rfl ?_
  by_cases hs0 : x1 = (0 : Int32)
  · have h := e_t hs0 h
    refine z_tableIn 64 C dX11_told_1 (by rw [hs0]; decide) (by rw [hs0]; decide) (by rw [hs0]; rfl) (by decide) ?_
    refine z_aload_n C dX11_told_64 rfl ?_
    refine z_get C O_31 0 rfl (fun _ h9 => hsT _ (inX11 _ h9)) (by decide) (hsT _ tw_3_175) dX11_told_65 rfl ?_
    refine z_iconst (0 : Int32) C dX11_told_68 (by decide) ?_
    obtain ⟨v69, h69, h⟩ := e_bd h
    refine z_iald C I_32 h69 dX11_told_69 ?_
    obtain rfl := Option.some.inj h
    exact z_iret C E dX11_told_70
  replace h := e_f hs0 h
  by_cases hs1 : x1 = (1 : Int32)
  · have h := e_t hs1 h
    refine z_tableIn 71 C dX11_told_1 (by rw [hs1]; decide) (by rw [hs1]; decide) (by rw [hs1]; rfl) (by decide) ?_
    refine z_aload_n C dX11_told_71 rfl ?_
    refine z_get C O_31 0 rfl (fun _ h9 => hsT _ (inX11 _ h9)) (by decide) (hsT _ tw_3_175) dX11_told_72 rfl ?_
    refine z_iconst (1 : Int32) C dX11_told_75 (by decide) ?_
    obtain ⟨v76, h76, h⟩ := e_bd h
    refine z_iald C I_32 h76 dX11_told_76 ?_
    obtain rfl := Option.some.inj h
    exact z_iret C E dX11_told_77
  replace h := e_f hs1 h
  by_cases hs2 : x1 = (2 : Int32)
  · have h := e_t hs2 h
    refine z_tableIn 78 C dX11_told_1 (by rw [hs2]; decide) (by rw [hs2]; decide) (by rw [hs2]; rfl) (by decide) ?_
    refine z_aload_n C dX11_told_78 rfl ?_
    refine z_get C O_31 0 rfl (fun _ h9 => hsT _ (inX11 _ h9)) (by decide) (hsT _ tw_3_175) dX11_told_79 rfl ?_
    refine z_iconst (2 : Int32) C dX11_told_82 (by decide) ?_
    obtain ⟨v83, h83, h⟩ := e_bd h
    refine z_iald C I_32 h83 dX11_told_83 ?_
    obtain rfl := Option.some.inj h
    exact z_iret C E dX11_told_84
  replace h := e_f hs2 h
  by_cases hs3 : x1 = (3 : Int32)
  · have h := e_t hs3 h
    refine z_tableIn 85 C dX11_told_1 (by rw [hs3]; decide) (by rw [hs3]; decide) (by rw [hs3]; rfl) (by decide) ?_
    refine z_aload_n C dX11_told_85 rfl ?_
    obtain ⟨v86, h86, h⟩ := e_bd h
    refine z_callVi (As := []) C (c_X11_heirs l g h86) rfl O_31 rfl (gcV hsT tw_3_234 cw_X11_heirs) rfl rfl rfl hy_X11_heirs rfl ⟨Nat.le_of_ble_eq_true rfl, Nat.le_of_ble_eq_true rfl⟩ (Nat.le_of_ble_eq_true rfl) dX11_told_86 ?_
    obtain rfl := Option.some.inj h
    exact z_iret C E dX11_told_89
  replace h := e_f hs3 h
  by_cases hs4 : x1 = (4 : Int32)
  · have h := e_t hs4 h
    refine z_tableIn 90 C dX11_told_1 (by rw [hs4]; decide) (by rw [hs4]; decide) (by rw [hs4]; rfl) (by decide) ?_
    refine z_aload_n C dX11_told_90 rfl ?_
    obtain ⟨s91, h91, h⟩ := e_bd h
    refine z_callVi (As := []) C (c_X11_coats l g h91) rfl O_31 rfl (gcV hsT tw_4_13 cw_X11_coats) rfl rfl rfl hy_X11_coats rfl ⟨Nat.le_of_ble_eq_true rfl, Nat.le_of_ble_eq_true rfl⟩ (Nat.le_of_ble_eq_true rfl) dX11_told_91 ?_
    obtain rfl := Option.some.inj h
    exact z_iret C E dX11_told_94
  replace h := e_f hs4 h
  by_cases hs5 : x1 = (5 : Int32)
  · have h := e_t hs5 h
    refine z_tableIn 95 C dX11_told_1 (by rw [hs5]; decide) (by rw [hs5]; decide) (by rw [hs5]; rfl) (by decide) ?_
    refine z_aload_n C dX11_told_95 rfl ?_
    obtain ⟨s96, h96, h⟩ := e_bd h
    refine z_callVi (As := []) C (c_X11_narrows l g h96) rfl O_31 rfl (gcV hsT tw_4_41 cw_X11_narrows) rfl rfl rfl hy_X11_narrows rfl ⟨Nat.le_of_ble_eq_true rfl, Nat.le_of_ble_eq_true rfl⟩ (Nat.le_of_ble_eq_true rfl) dX11_told_96 ?_
    obtain ⟨j99, h99, h⟩ := e_bd h
    have hj99 : zJ g x s96.2 107 [] [.int j99] := by
      obtain rfl := Option.some.inj h
      exact z_iret C E dX11_told_107
    have h := h99
    refine z_if_eq 106 C dX11_told_99 (by decide) (fun hc => ?_) (fun hc => ?_)
    · have h := e_t hc h
      refine z_iconst (1 : Int32) C dX11_told_106 (by decide) ?_
      obtain rfl := Option.some.inj h
      exact z_sub [] rfl hj99
    · have h := e_f hc h
      refine z_iconst (0 : Int32) C dX11_told_102 (by decide) ?_
      refine z_goto 107 C dX11_told_103 (by decide) ?_
      obtain rfl := Option.some.inj h
      exact z_sub [] rfl hj99
  replace h := e_f hs5 h
  by_cases hs6 : x1 = (6 : Int32)
  · have h := e_t hs6 h
    refine z_tableIn 108 C dX11_told_1 (by rw [hs6]; decide) (by rw [hs6]; decide) (by rw [hs6]; rfl) (by decide) ?_
    refine z_aload_n C dX11_told_108 rfl ?_
    refine z_iconst (1 : Int32) C dX11_told_109 (by decide) ?_
    obtain ⟨s110, h110, h⟩ := e_bd h
    refine z_callVi (As := [.int (1 : Int32)]) C (c_X11_meant l g h110) rfl O_31 rfl (gcV hsT tw_4_57 cw_X11_meant) rfl rfl rfl hy_X11_meant rfl ⟨Nat.le_of_ble_eq_true rfl, Nat.le_of_ble_eq_true rfl⟩ (Nat.le_of_ble_eq_true rfl) dX11_told_110 ?_
    obtain rfl := Option.some.inj h
    exact z_iret C E dX11_told_113
  replace h := e_f hs6 h
  by_cases hs7 : x1 = (7 : Int32)
  · have h := e_t hs7 h
    refine z_tableIn 114 C dX11_told_1 (by rw [hs7]; decide) (by rw [hs7]; decide) (by rw [hs7]; rfl) (by decide) ?_
    refine z_aload_n C dX11_told_114 rfl ?_
    refine z_iconst (0 : Int32) C dX11_told_115 (by decide) ?_
    obtain ⟨s116, h116, h⟩ := e_bd h
    refine z_callVi (As := [.int (0 : Int32)]) C (c_X11_meant l g h116) rfl O_31 rfl (gcV hsT tw_4_57 cw_X11_meant) rfl rfl rfl hy_X11_meant rfl ⟨Nat.le_of_ble_eq_true rfl, Nat.le_of_ble_eq_true rfl⟩ (Nat.le_of_ble_eq_true rfl) dX11_told_116 ?_
    obtain rfl := Option.some.inj h
    exact z_iret C E dX11_told_119
  replace h := e_f hs7 h
  by_cases hs8 : x1 = (8 : Int32)
  · have h := e_t hs8 h
    refine z_tableIn 120 C dX11_told_1 (by rw [hs8]; decide) (by rw [hs8]; decide) (by rw [hs8]; rfl) (by decide) ?_
    refine z_aload_n C dX11_told_120 rfl ?_
    obtain ⟨s121, h121, h⟩ := e_bd h
    refine z_callVi (As := []) C (c_X11_likely l g h121) rfl O_31 rfl (gcV hsT tw_4_73 cw_X11_likely) rfl rfl rfl hy_X11_likely rfl ⟨Nat.le_of_ble_eq_true rfl, Nat.le_of_ble_eq_true rfl⟩ (Nat.le_of_ble_eq_true rfl) dX11_told_121 ?_
    obtain rfl := Option.some.inj h
    exact z_iret C E dX11_told_124
  replace h := e_f hs8 h
  by_cases hs9 : x1 = (9 : Int32)
  · have h := e_t hs9 h
    refine z_tableIn 125 C dX11_told_1 (by rw [hs9]; decide) (by rw [hs9]; decide) (by rw [hs9]; rfl) (by decide) ?_
    refine z_aload_n C dX11_told_125 rfl ?_
    refine z_get C O_31 5 rfl (fun _ h9 => hsT _ (inX11 _ h9)) (by decide) (hsT _ tw_3_180) dX11_told_126 rfl ?_
    obtain rfl := Option.some.inj h
    exact z_iret C E dX11_told_129
  replace h := e_f hs9 h
  by_cases hs10 : x1 = (10 : Int32)
  · have h := e_t hs10 h
    refine z_tableIn 130 C dX11_told_1 (by rw [hs10]; decide) (by rw [hs10]; decide) (by rw [hs10]; rfl) (by decide) ?_
    refine z_aload_n C dX11_told_130 rfl ?_
    obtain ⟨s131, h131, h⟩ := e_bd h
    refine z_callVi (As := []) C (c_X11_wrong l g h131) rfl O_31 rfl (gcV hsT tw_4_81 cw_X11_wrong) rfl rfl rfl hy_X11_wrong rfl ⟨Nat.le_of_ble_eq_true rfl, Nat.le_of_ble_eq_true rfl⟩ (Nat.le_of_ble_eq_true rfl) dX11_told_131 ?_
    obtain rfl := Option.some.inj h
    exact z_iret C E dX11_told_134
  replace h := e_f hs10 h
  by_cases hs11 : x1 = (11 : Int32)
  · have h := e_t hs11 h
    refine z_tableIn 135 C dX11_told_1 (by rw [hs11]; decide) (by rw [hs11]; decide) (by rw [hs11]; rfl) (by decide) ?_
    refine z_aload_n C dX11_told_135 rfl ?_
    refine z_get C O_31 3 rfl (fun _ h9 => hsT _ (inX11 _ h9)) (by decide) (hsT _ tw_3_178) dX11_told_136 rfl ?_
    obtain rfl := Option.some.inj h
    exact z_iret C E dX11_told_139
  replace h := e_f hs11 h
  refine z_tableOut 140 C dX11_told_1 (sw_out12 hs0 hs1 hs2 hs3 hs4 hs5 hs6 hs7 hs8 hs9 hs10 hs11) (by decide) ?_
  refine z_ldc (v := (-1000000002 : Int32)) C (hsT _ tw_4_85) dX11_told_140 ?_
  obtain rfl := Option.some.inj h
  exact z_iret C E dX11_told_142
theorem hy_X11_children : yX11_children.cls = RX11 ∧ yX11_children.cls ≠ "java/lang/invoke/MethodHandle" ∧ yX11_children.cls ≠ "java/lang/invoke/VarHandle" ∧ (parseMethodDescriptor yX11_children.desc).map (fun d => d.parameters.length) = some 1 := by decide +kernel
def wX11_children : List Cond := Cond.code yX11_children cX11_children 4 (some .int) :: TB
def f_X11_children_L4 : Nat → MM → Int32 → Int32 → Int32 → Option (Int32)
  | 0, _, _, _, _ => none
  | n + 1, M, x1, x2, x3 =>
    (z_ld M 32 3243 (0 : Int32)).bind fun (v10 : Int32) =>
    if v10 ≤ x3 then
      some x2
    else
      (z_ld M 32 3243 ((45 : Int32) + x3)).bind fun (v23 : Int32) =>
      (if v23 = x1 then
        some ((1 : Int32) <<< (x3 &&& 31))
      else
        (z_ld M 32 3243 ((61 : Int32) + x3)).bind fun (v36 : Int32) =>
        if v36 = x1 then
          some ((1 : Int32) <<< (x3 &&& 31))
        else
          some (0 : Int32)
      ).bind fun (j25 : Int32) =>
        f_X11_children_L4 n M x1 (x2 ||| j25) (x3 + (1 : Int32))
def f_X11_children (M : MM) (x1 : Int32) : Option Int32 :=
  (f_X11_children_L4 FU M x1 (0 : Int32) (0 : Int32)).bind fun (w4 : Int32) =>
  some w4
set_option maxRecDepth 100000 in
set_option maxHeartbeats 4000000 in
theorem lp_X11_children_4 {l : Launch} {g : Gx} {x : Cx} (C : zC g x l RX11 cX11_children wX11_children (rmm 0 0) 4) {r : Int32} : ∀ (n : Nat) (M : MM) (x1 x2 x3 : Int32) , f_X11_children_L4 n M x1 x2 x3 = some r → zJ g x M 56 [(2, .int r)] [] → zJ g x M 4 [(0, .ref (ga g 31)), (1, .int x1), (2, .int x2), (3, .int x3)] [] := by
  intro n
  induction n with
  | zero =>
    intro M x1 x2 x3 h hj
    exact absurd h (by simp [f_X11_children_L4])
  | succ n ih =>
    intro M x1 x2 x3 h hj
    rw [f_X11_children_L4] at h
    refine z_iload_n C dX11_children_4 rfl ?_
    refine z_aload_n C dX11_children_5 rfl ?_
    refine z_get C O_31 0 rfl (fun _ h9 => hsT _ (inX11 _ h9)) (by decide) (hsT _ tw_3_175) dX11_children_6 rfl ?_
    refine z_iconst (0 : Int32) C dX11_children_9 (by decide) ?_
    obtain ⟨v10, h10, h⟩ := e_bd h
    refine z_iald C I_32 h10 dX11_children_10 ?_
    refine z_icmp_ge 56 C dX11_children_11 (by decide) (fun hc => ?_) (fun hc => ?_)
    · have h := e_t hc h
      obtain rfl := Option.some.inj h
      exact z_sub [2] rfl hj
    · have h := e_f hc h
      refine z_iload_n C dX11_children_14 rfl ?_
      refine z_aload_n C dX11_children_15 rfl ?_
      refine z_get C O_31 0 rfl (fun _ h9 => hsT _ (inX11 _ h9)) (by decide) (hsT _ tw_3_175) dX11_children_16 rfl ?_
      refine z_bipush (45 : Int32) C dX11_children_19 (by decide) ?_
      refine z_iload_n C dX11_children_21 rfl ?_
      refine z_iadd C dX11_children_22 ?_
      obtain ⟨v23, h23, h⟩ := e_bd h
      refine z_iald C I_32 h23 dX11_children_23 ?_
      refine z_iload_n C dX11_children_24 rfl ?_
      obtain ⟨j25, h25, h⟩ := e_bd h
      have hj25 : zJ g x M 48 [(0, .ref (ga g 31)), (1, .int x1), (3, .int x3)] [.int j25, .int x2] := by
        refine z_ior C dX11_children_48 ?_
        refine z_istore_n [(2, .int (x2 ||| j25)), (0, .ref (ga g 31)), (1, .int x1), (3, .int x3)] C dX11_children_49 (by decide) rfl ?_
        refine z_iinc (v := (x3 + (1 : Int32))) [(3, .int (x3 + (1 : Int32))), (2, .int (x2 ||| j25)), (0, .ref (ga g 31)), (1, .int x1)] C dX11_children_50 rfl rfl (by decide) rfl ?_
        refine z_goto 4 C dX11_children_53 (by decide) ?_
        refine z_sub [2, 3, 1, 0] rfl ?_
        exact ih _ _ _ _ h hj
      have h := h25
      refine z_icmp_eq 41 C dX11_children_25 (by decide) (fun hc => ?_) (fun hc => ?_)
      · have h := e_t hc h
        refine z_iconst (1 : Int32) C dX11_children_41 (by decide) ?_
        refine z_iload_n C dX11_children_42 rfl ?_
        refine z_ishl C dX11_children_43 ?_
        refine z_goto 48 C dX11_children_44 (by decide) ?_
        obtain rfl := Option.some.inj h
        exact z_sub [0, 1, 3] rfl hj25
      · have h := e_f hc h
        refine z_aload_n C dX11_children_28 rfl ?_
        refine z_get C O_31 0 rfl (fun _ h9 => hsT _ (inX11 _ h9)) (by decide) (hsT _ tw_3_175) dX11_children_29 rfl ?_
        refine z_bipush (61 : Int32) C dX11_children_32 (by decide) ?_
        refine z_iload_n C dX11_children_34 rfl ?_
        refine z_iadd C dX11_children_35 ?_
        obtain ⟨v36, h36, h⟩ := e_bd h
        refine z_iald C I_32 h36 dX11_children_36 ?_
        refine z_iload_n C dX11_children_37 rfl ?_
        refine z_icmp_ne 47 C dX11_children_38 (by decide) (fun hc => ?_) (fun hc => ?_)
        · have h := e_f hc h
          refine z_iconst (0 : Int32) C dX11_children_47 (by decide) ?_
          obtain rfl := Option.some.inj h
          exact z_sub [0, 1, 3] rfl hj25
        · have h := e_t hc h
          refine z_iconst (1 : Int32) C dX11_children_41 (by decide) ?_
          refine z_iload_n C dX11_children_42 rfl ?_
          refine z_ishl C dX11_children_43 ?_
          refine z_goto 48 C dX11_children_44 (by decide) ?_
          obtain rfl := Option.some.inj h
          exact z_sub [0, 1, 3] rfl hj25
set_option maxRecDepth 100000 in
set_option maxHeartbeats 4000000 in
theorem c_X11_children (l : Launch) (g : Gx) {M : MM} {x1 : Int32} {r : Int32} (h : f_X11_children M x1 = some r) : zMi l yX11_children wX11_children (rmm 0 0) [.ref (ga g 31), .int x1] g M r M := by
  refine zMi_of .int (by decide) rfl (Nat.le_of_ble_eq_true rfl) rfl rfl ?_
  intro x C E
  show zJ g x M 0 [(0, .ref (ga g 31)), (1, .int x1)] []
  unfold f_X11_children at h
  refine z_iconst (0 : Int32) C dX11_children_0 (by decide) ?_
  refine z_istore_n [(2, .int (0 : Int32)), (0, .ref (ga g 31)), (1, .int x1)] C dX11_children_1 (by decide) rfl ?_
  refine z_iconst (0 : Int32) C dX11_children_2 (by decide) ?_
  refine z_istore_n [(3, .int (0 : Int32)), (2, .int (0 : Int32)), (0, .ref (ga g 31)), (1, .int x1)] C dX11_children_3 (by decide) rfl ?_
  obtain ⟨w4, h4, h⟩ := e_bd h
  refine z_sub [2, 3, 1, 0] rfl ?_
  refine lp_X11_children_4 C _ _ _ _ _ h4 ?_
  refine z_iload_n C dX11_children_56 rfl ?_
  obtain rfl := Option.some.inj h
  exact z_iret C E dX11_children_57
theorem hy_X11_narrowed : yX11_narrowed.cls = RX11 ∧ yX11_narrowed.cls ≠ "java/lang/invoke/MethodHandle" ∧ yX11_narrowed.cls ≠ "java/lang/invoke/VarHandle" ∧ (parseMethodDescriptor yX11_narrowed.desc).map (fun d => d.parameters.length) = some 2 := by decide +kernel
def wX11_narrowed : List Cond := Cond.code yX11_narrowed cX11_narrowed 4 (some .int) :: TB
def f_X11_narrowed (M : MM) (x1 : Int32) (x2 : Int32) : Option (Int32 × MM) :=
  (f_X11_narrows M ).bind fun (s1 : Int32 × MM) =>
  if s1.1 = 0 then
    some ((-1 : Int32), s1.2)
  else
    (if (14 : Int32) ≤ x2 then
      some ((16 : Int32) + x1)
    else
      some x1
    ).bind fun (j12 : Int32) =>
      (z_rem x2 (2 : Int32)).bind fun (v26 : Int32) =>
      (if v26 = 0 then
        (z_ld s1.2 41 32 j12).bind fun (v35 : Int32) =>
        some v35
      else
        (z_ld s1.2 42 32 j12).bind fun (v44 : Int32) =>
        some v44
      ).bind fun (j27 : Int32) =>
        some (j27, s1.2)
set_option maxRecDepth 100000 in
set_option maxHeartbeats 4000000 in
theorem c_X11_narrowed (l : Launch) (g : Gx) {M : MM} {x1 : Int32} {x2 : Int32} {r : Int32 × MM} (h : f_X11_narrowed M x1 x2 = some r) : zMi l yX11_narrowed wX11_narrowed (rmm 3 68) [.ref (ga g 31), .int x1, .int x2] g M r.1 r.2 := by
  refine zMi_of .int (by decide) rfl (Nat.le_of_ble_eq_true rfl) rfl rfl ?_
  intro x C E
  show zJ g x M 0 [(0, .ref (ga g 31)), (1, .int x1), (2, .int x2)] []
  unfold f_X11_narrowed at h
  refine z_aload_n C dX11_narrowed_0 rfl ?_
  obtain ⟨s1, h1, h⟩ := e_bd h
  refine z_callVi (As := []) C (c_X11_narrows l g h1) rfl O_31 rfl (gcV hsT tw_4_41 cw_X11_narrows) rfl rfl rfl hy_X11_narrows rfl ⟨Nat.le_of_ble_eq_true rfl, Nat.le_of_ble_eq_true rfl⟩ (Nat.le_of_ble_eq_true rfl) dX11_narrowed_1 ?_
  refine z_if_ne 9 C dX11_narrowed_4 (by decide) (fun hc => ?_) (fun hc => ?_)
  · have h := e_f hc h
    refine z_iload_n C dX11_narrowed_9 rfl ?_
    refine z_bipush (14 : Int32) C dX11_narrowed_10 (by decide) ?_
    obtain ⟨j12, h12, h⟩ := e_bd h
    have hj12 : zJ g x s1.2 23 [(0, .ref (ga g 31)), (2, .int x2)] [.int j12] := by
      refine z_istore_n [(3, .int j12), (0, .ref (ga g 31)), (2, .int x2)] C dX11_narrowed_23 (by decide) rfl ?_
      refine z_iload_n C dX11_narrowed_24 rfl ?_
      refine z_iconst (2 : Int32) C dX11_narrowed_25 (by decide) ?_
      obtain ⟨v26, h26, h⟩ := e_bd h
      refine z_irem C h26 dX11_narrowed_26 ?_
      obtain ⟨j27, h27, h⟩ := e_bd h
      have hj27 : zJ g x s1.2 45 [] [.int j27] := by
        obtain rfl := Option.some.inj h
        exact z_iret C E dX11_narrowed_45
      have h := h27
      refine z_if_ne 39 C dX11_narrowed_27 (by decide) (fun hc => ?_) (fun hc => ?_)
      · have h := e_f hc h
        refine z_aload_n C dX11_narrowed_39 rfl ?_
        refine z_get C O_31 13 rfl (fun _ h9 => hsT _ (inX11 _ h9)) (by decide) (hsT _ tw_3_188) dX11_narrowed_40 rfl ?_
        refine z_iload_n C dX11_narrowed_43 rfl ?_
        obtain ⟨v44, h44, h⟩ := e_bd h
        refine z_iald C I_42 h44 dX11_narrowed_44 ?_
        obtain rfl := Option.some.inj h
        exact z_sub [] rfl hj27
      · have h := e_t hc h
        refine z_aload_n C dX11_narrowed_30 rfl ?_
        refine z_get C O_31 12 rfl (fun _ h9 => hsT _ (inX11 _ h9)) (by decide) (hsT _ tw_3_187) dX11_narrowed_31 rfl ?_
        refine z_iload_n C dX11_narrowed_34 rfl ?_
        obtain ⟨v35, h35, h⟩ := e_bd h
        refine z_iald C I_41 h35 dX11_narrowed_35 ?_
        refine z_goto 45 C dX11_narrowed_36 (by decide) ?_
        obtain rfl := Option.some.inj h
        exact z_sub [] rfl hj27
    have h := h12
    refine z_icmp_ge 19 C dX11_narrowed_12 (by decide) (fun hc => ?_) (fun hc => ?_)
    · have h := e_t hc h
      refine z_bipush (16 : Int32) C dX11_narrowed_19 (by decide) ?_
      refine z_iload_n C dX11_narrowed_21 rfl ?_
      refine z_iadd C dX11_narrowed_22 ?_
      obtain rfl := Option.some.inj h
      exact z_sub [0, 2] rfl hj12
    · have h := e_f hc h
      refine z_iload_n C dX11_narrowed_15 rfl ?_
      refine z_goto 23 C dX11_narrowed_16 (by decide) ?_
      obtain rfl := Option.some.inj h
      exact z_sub [0, 2] rfl hj12
  · have h := e_t hc h
    refine z_iconst (-1 : Int32) C dX11_narrowed_7 (by decide) ?_
    obtain rfl := Option.some.inj h
    exact z_iret C E dX11_narrowed_8
theorem hy_X11_person : yX11_person.cls = RX11 ∧ yX11_person.cls ≠ "java/lang/invoke/MethodHandle" ∧ yX11_person.cls ≠ "java/lang/invoke/VarHandle" ∧ (parseMethodDescriptor yX11_person.desc).map (fun d => d.parameters.length) = some 2 := by decide +kernel
def wX11_person : List Cond := Cond.code yX11_person cX11_person 3 (some .int) :: TB
def f_X11_person (M : MM) (x1 : Int32) (x2 : Int32) : Option (Int32 × MM) :=
  (f_X11_isOne M x1).bind fun (v2 : Int32) =>
  if v2 = 0 then
    some ((-1000000001 : Int32), M)
  else
    (f_X11_lays M ).bind fun (M12 : MM) =>
    if x2 = (0 : Int32) then
      (z_ld M12 32 3243 ((13 : Int32) + x1)).bind fun (v88 : Int32) =>
      some (v88, M12)
    else
    if x2 = (1 : Int32) then
      (z_ld M12 32 3243 ((29 : Int32) + x1)).bind fun (v98 : Int32) =>
      some (v98, M12)
    else
    if x2 = (2 : Int32) then
      (z_ld M12 32 3243 ((45 : Int32) + x1)).bind fun (v108 : Int32) =>
      some (v108, M12)
    else
    if x2 = (3 : Int32) then
      (z_ld M12 32 3243 ((61 : Int32) + x1)).bind fun (v118 : Int32) =>
      some (v118, M12)
    else
    if x2 = (4 : Int32) then
      (z_ld M12 38 17 x1).bind fun (v125 : Int32) =>
      some (v125, M12)
    else
    if x2 = (5 : Int32) then
      (f_X11_same M12 x1).bind fun (v129 : Int32) =>
      some (v129, M12)
    else
    if x2 = (6 : Int32) then
      (f_X11_like M12 x1).bind fun (s135 : Int32 × MM) =>
      some (s135.1, s135.2)
    else
    if x2 = (7 : Int32) then
      (f_X11_children M12 x1).bind fun (v141 : Int32) =>
      some (v141, M12)
    else
    if x2 = (8 : Int32) then
      (z_ld M12 32 3243 ((77 : Int32) + ((2 : Int32) * x1))).bind fun (v155 : Int32) =>
      some (v155, M12)
    else
    if x2 = (9 : Int32) then
      (z_ld M12 32 3243 (((77 : Int32) + ((2 : Int32) * x1)) + (1 : Int32))).bind fun (v169 : Int32) =>
      some (v169, M12)
    else
    if x2 = (10 : Int32) then
      (z_ld M12 32 3243 ((109 : Int32) + ((2 : Int32) * x1))).bind fun (v181 : Int32) =>
      some (v181, M12)
    else
    if x2 = (11 : Int32) then
      (z_ld M12 32 3243 (((109 : Int32) + ((2 : Int32) * x1)) + (1 : Int32))).bind fun (v195 : Int32) =>
      some (v195, M12)
    else
    (f_X11_in M12 x2.toInt64 (12 : Int64) (15 : Int64)).bind fun (v205 : Int32) =>
    (if v205 = 0 then
      some (M12, (-1000000002 : Int32))
    else
      (f_X11_narrowed M12 x1 x2).bind fun (s214 : Int32 × MM) =>
      some (s214.2, s214.1)
    ).bind fun (j208 : MM × Int32) =>
      some (j208.2, j208.1)
set_option maxRecDepth 100000 in
set_option maxHeartbeats 4000000 in
theorem c_X11_person (l : Launch) (g : Gx) {M : MM} {x1 : Int32} {x2 : Int32} {r : Int32 × MM} (h : f_X11_person M x1 x2 = some r) : zMi l yX11_person wX11_person (rmm 6 136) [.ref (ga g 31), .int x1, .int x2] g M r.1 r.2 := by
  refine zMi_of .int (by decide) rfl (Nat.le_of_ble_eq_true rfl) rfl rfl ?_
  intro x C E
  show zJ g x M 0 [(0, .ref (ga g 31)), (1, .int x1), (2, .int x2)] []
  unfold f_X11_person at h
  refine z_aload_n C dX11_person_0 rfl ?_
  refine z_iload_n C dX11_person_1 rfl ?_
  obtain ⟨v2, h2, h⟩ := e_bd h
  refine z_callVi (As := [.int x1]) C (c_X11_isOne l g h2) rfl O_31 rfl (gcV hsT tw_4_6 cw_X11_isOne) rfl rfl rfl hy_X11_isOne rfl ⟨Nat.le_of_ble_eq_true rfl, Nat.le_of_ble_eq_true rfl⟩ (Nat.le_of_ble_eq_true rfl) dX11_person_2 ?_
  refine z_if_ne 11 C dX11_person_5 (by decide) (fun hc => ?_) (fun hc => ?_)
  · have h := e_f hc h
    refine z_aload_n C dX11_person_11 rfl ?_
    obtain ⟨M12, h12, h⟩ := e_bd h
    refine z_callVv (As := []) C (c_X11_lays l g h12) rfl O_31 rfl (gcV hsT tw_4_17 cw_X11_lays) rfl rfl rfl hy_X11_lays rfl ⟨Nat.le_of_ble_eq_true rfl, Nat.le_of_ble_eq_true rfl⟩ (Nat.le_of_ble_eq_true rfl) dX11_person_12 ?_
    refine z_iload_n C dX11_person_15 rfl ?_
    by_cases hs0 : x2 = (0 : Int32)
    · have h := e_t hs0 h
      refine z_tableIn 80 C dX11_person_16 (by rw [hs0]; decide) (by rw [hs0]; decide) (by rw [hs0]; rfl) (by decide) ?_
      refine z_aload_n C dX11_person_80 rfl ?_
      refine z_get C O_31 0 rfl (fun _ h9 => hsT _ (inX11 _ h9)) (by decide) (hsT _ tw_3_175) dX11_person_81 rfl ?_
      refine z_bipush (13 : Int32) C dX11_person_84 (by decide) ?_
      refine z_iload_n C dX11_person_86 rfl ?_
      refine z_iadd C dX11_person_87 ?_
      obtain ⟨v88, h88, h⟩ := e_bd h
      refine z_iald C I_32 h88 dX11_person_88 ?_
      obtain rfl := Option.some.inj h
      exact z_iret C E dX11_person_89
    replace h := e_f hs0 h
    by_cases hs1 : x2 = (1 : Int32)
    · have h := e_t hs1 h
      refine z_tableIn 90 C dX11_person_16 (by rw [hs1]; decide) (by rw [hs1]; decide) (by rw [hs1]; rfl) (by decide) ?_
      refine z_aload_n C dX11_person_90 rfl ?_
      refine z_get C O_31 0 rfl (fun _ h9 => hsT _ (inX11 _ h9)) (by decide) (hsT _ tw_3_175) dX11_person_91 rfl ?_
      refine z_bipush (29 : Int32) C dX11_person_94 (by decide) ?_
      refine z_iload_n C dX11_person_96 rfl ?_
      refine z_iadd C dX11_person_97 ?_
      obtain ⟨v98, h98, h⟩ := e_bd h
      refine z_iald C I_32 h98 dX11_person_98 ?_
      obtain rfl := Option.some.inj h
      exact z_iret C E dX11_person_99
    replace h := e_f hs1 h
    by_cases hs2 : x2 = (2 : Int32)
    · have h := e_t hs2 h
      refine z_tableIn 100 C dX11_person_16 (by rw [hs2]; decide) (by rw [hs2]; decide) (by rw [hs2]; rfl) (by decide) ?_
      refine z_aload_n C dX11_person_100 rfl ?_
      refine z_get C O_31 0 rfl (fun _ h9 => hsT _ (inX11 _ h9)) (by decide) (hsT _ tw_3_175) dX11_person_101 rfl ?_
      refine z_bipush (45 : Int32) C dX11_person_104 (by decide) ?_
      refine z_iload_n C dX11_person_106 rfl ?_
      refine z_iadd C dX11_person_107 ?_
      obtain ⟨v108, h108, h⟩ := e_bd h
      refine z_iald C I_32 h108 dX11_person_108 ?_
      obtain rfl := Option.some.inj h
      exact z_iret C E dX11_person_109
    replace h := e_f hs2 h
    by_cases hs3 : x2 = (3 : Int32)
    · have h := e_t hs3 h
      refine z_tableIn 110 C dX11_person_16 (by rw [hs3]; decide) (by rw [hs3]; decide) (by rw [hs3]; rfl) (by decide) ?_
      refine z_aload_n C dX11_person_110 rfl ?_
      refine z_get C O_31 0 rfl (fun _ h9 => hsT _ (inX11 _ h9)) (by decide) (hsT _ tw_3_175) dX11_person_111 rfl ?_
      refine z_bipush (61 : Int32) C dX11_person_114 (by decide) ?_
      refine z_iload_n C dX11_person_116 rfl ?_
      refine z_iadd C dX11_person_117 ?_
      obtain ⟨v118, h118, h⟩ := e_bd h
      refine z_iald C I_32 h118 dX11_person_118 ?_
      obtain rfl := Option.some.inj h
      exact z_iret C E dX11_person_119
    replace h := e_f hs3 h
    by_cases hs4 : x2 = (4 : Int32)
    · have h := e_t hs4 h
      refine z_tableIn 120 C dX11_person_16 (by rw [hs4]; decide) (by rw [hs4]; decide) (by rw [hs4]; rfl) (by decide) ?_
      refine z_aload_n C dX11_person_120 rfl ?_
      refine z_get C O_31 9 rfl (fun _ h9 => hsT _ (inX11 _ h9)) (by decide) (hsT _ tw_3_184) dX11_person_121 rfl ?_
      refine z_iload_n C dX11_person_124 rfl ?_
      obtain ⟨v125, h125, h⟩ := e_bd h
      refine z_iald C I_38 h125 dX11_person_125 ?_
      obtain rfl := Option.some.inj h
      exact z_iret C E dX11_person_126
    replace h := e_f hs4 h
    by_cases hs5 : x2 = (5 : Int32)
    · have h := e_t hs5 h
      refine z_tableIn 127 C dX11_person_16 (by rw [hs5]; decide) (by rw [hs5]; decide) (by rw [hs5]; rfl) (by decide) ?_
      refine z_aload_n C dX11_person_127 rfl ?_
      refine z_iload_n C dX11_person_128 rfl ?_
      obtain ⟨v129, h129, h⟩ := e_bd h
      refine z_callVi (As := [.int x1]) C (c_X11_same l g h129) rfl O_31 rfl (gcV hsT tw_4_33 cw_X11_same) rfl rfl rfl hy_X11_same rfl ⟨Nat.le_of_ble_eq_true rfl, Nat.le_of_ble_eq_true rfl⟩ (Nat.le_of_ble_eq_true rfl) dX11_person_129 ?_
      obtain rfl := Option.some.inj h
      exact z_iret C E dX11_person_132
    replace h := e_f hs5 h
    by_cases hs6 : x2 = (6 : Int32)
    · have h := e_t hs6 h
      refine z_tableIn 133 C dX11_person_16 (by rw [hs6]; decide) (by rw [hs6]; decide) (by rw [hs6]; rfl) (by decide) ?_
      refine z_aload_n C dX11_person_133 rfl ?_
      refine z_iload_n C dX11_person_134 rfl ?_
      obtain ⟨s135, h135, h⟩ := e_bd h
      refine z_callVi (As := [.int x1]) C (c_X11_like l g h135) rfl O_31 rfl (gcV hsT tw_4_77 cw_X11_like) rfl rfl rfl hy_X11_like rfl ⟨Nat.le_of_ble_eq_true rfl, Nat.le_of_ble_eq_true rfl⟩ (Nat.le_of_ble_eq_true rfl) dX11_person_135 ?_
      obtain rfl := Option.some.inj h
      exact z_iret C E dX11_person_138
    replace h := e_f hs6 h
    by_cases hs7 : x2 = (7 : Int32)
    · have h := e_t hs7 h
      refine z_tableIn 139 C dX11_person_16 (by rw [hs7]; decide) (by rw [hs7]; decide) (by rw [hs7]; rfl) (by decide) ?_
      refine z_aload_n C dX11_person_139 rfl ?_
      refine z_iload_n C dX11_person_140 rfl ?_
      obtain ⟨v141, h141, h⟩ := e_bd h
      refine z_callVi (As := [.int x1]) C (c_X11_children l g h141) rfl O_31 rfl (gcV hsT tw_4_91 cw_X11_children) rfl rfl rfl hy_X11_children rfl ⟨Nat.le_of_ble_eq_true rfl, Nat.le_of_ble_eq_true rfl⟩ (Nat.le_of_ble_eq_true rfl) dX11_person_141 ?_
      obtain rfl := Option.some.inj h
      exact z_iret C E dX11_person_144
    replace h := e_f hs7 h
    by_cases hs8 : x2 = (8 : Int32)
    · have h := e_t hs8 h
      refine z_tableIn 145 C dX11_person_16 (by rw [hs8]; decide) (by rw [hs8]; decide) (by rw [hs8]; rfl) (by decide) ?_
      refine z_aload_n C dX11_person_145 rfl ?_
      refine z_get C O_31 0 rfl (fun _ h9 => hsT _ (inX11 _ h9)) (by decide) (hsT _ tw_3_175) dX11_person_146 rfl ?_
      refine z_bipush (77 : Int32) C dX11_person_149 (by decide) ?_
      refine z_iconst (2 : Int32) C dX11_person_151 (by decide) ?_
      refine z_iload_n C dX11_person_152 rfl ?_
      refine z_imul C dX11_person_153 ?_
      refine z_iadd C dX11_person_154 ?_
      obtain ⟨v155, h155, h⟩ := e_bd h
      refine z_iald C I_32 h155 dX11_person_155 ?_
      obtain rfl := Option.some.inj h
      exact z_iret C E dX11_person_156
    replace h := e_f hs8 h
    by_cases hs9 : x2 = (9 : Int32)
    · have h := e_t hs9 h
      refine z_tableIn 157 C dX11_person_16 (by rw [hs9]; decide) (by rw [hs9]; decide) (by rw [hs9]; rfl) (by decide) ?_
      refine z_aload_n C dX11_person_157 rfl ?_
      refine z_get C O_31 0 rfl (fun _ h9 => hsT _ (inX11 _ h9)) (by decide) (hsT _ tw_3_175) dX11_person_158 rfl ?_
      refine z_bipush (77 : Int32) C dX11_person_161 (by decide) ?_
      refine z_iconst (2 : Int32) C dX11_person_163 (by decide) ?_
      refine z_iload_n C dX11_person_164 rfl ?_
      refine z_imul C dX11_person_165 ?_
      refine z_iadd C dX11_person_166 ?_
      refine z_iconst (1 : Int32) C dX11_person_167 (by decide) ?_
      refine z_iadd C dX11_person_168 ?_
      obtain ⟨v169, h169, h⟩ := e_bd h
      refine z_iald C I_32 h169 dX11_person_169 ?_
      obtain rfl := Option.some.inj h
      exact z_iret C E dX11_person_170
    replace h := e_f hs9 h
    by_cases hs10 : x2 = (10 : Int32)
    · have h := e_t hs10 h
      refine z_tableIn 171 C dX11_person_16 (by rw [hs10]; decide) (by rw [hs10]; decide) (by rw [hs10]; rfl) (by decide) ?_
      refine z_aload_n C dX11_person_171 rfl ?_
      refine z_get C O_31 0 rfl (fun _ h9 => hsT _ (inX11 _ h9)) (by decide) (hsT _ tw_3_175) dX11_person_172 rfl ?_
      refine z_bipush (109 : Int32) C dX11_person_175 (by decide) ?_
      refine z_iconst (2 : Int32) C dX11_person_177 (by decide) ?_
      refine z_iload_n C dX11_person_178 rfl ?_
      refine z_imul C dX11_person_179 ?_
      refine z_iadd C dX11_person_180 ?_
      obtain ⟨v181, h181, h⟩ := e_bd h
      refine z_iald C I_32 h181 dX11_person_181 ?_
      obtain rfl := Option.some.inj h
      exact z_iret C E dX11_person_182
    replace h := e_f hs10 h
    by_cases hs11 : x2 = (11 : Int32)
    · have h := e_t hs11 h
      refine z_tableIn 183 C dX11_person_16 (by rw [hs11]; decide) (by rw [hs11]; decide) (by rw [hs11]; rfl) (by decide) ?_
      refine z_aload_n C dX11_person_183 rfl ?_
      refine z_get C O_31 0 rfl (fun _ h9 => hsT _ (inX11 _ h9)) (by decide) (hsT _ tw_3_175) dX11_person_184 rfl ?_
      refine z_bipush (109 : Int32) C dX11_person_187 (by decide) ?_
      refine z_iconst (2 : Int32) C dX11_person_189 (by decide) ?_
      refine z_iload_n C dX11_person_190 rfl ?_
      refine z_imul C dX11_person_191 ?_
      refine z_iadd C dX11_person_192 ?_
      refine z_iconst (1 : Int32) C dX11_person_193 (by decide) ?_
      refine z_iadd C dX11_person_194 ?_
      obtain ⟨v195, h195, h⟩ := e_bd h
      refine z_iald C I_32 h195 dX11_person_195 ?_
      obtain rfl := Option.some.inj h
      exact z_iret C E dX11_person_196
    replace h := e_f hs11 h
    refine z_tableOut 197 C dX11_person_16 (sw_out12 hs0 hs1 hs2 hs3 hs4 hs5 hs6 hs7 hs8 hs9 hs10 hs11) (by decide) ?_
    refine z_iload_n C dX11_person_197 rfl ?_
    refine z_i2l C dX11_person_198 ?_
    refine z_ldc2 (v := (12 : Int64)) C (hsT _ tw_4_95) dX11_person_199 ?_
    refine z_ldc2 (v := (15 : Int64)) C (hsT _ tw_4_96) dX11_person_202 ?_
    obtain ⟨v205, h205, h⟩ := e_bd h
    refine z_callSi (As := [.long x2.toInt64, .long (12 : Int64), .long (15 : Int64)]) C (c_X11_in l g h205) rfl (gcS hsT tw_4_10 cw_X11_in) rfl rfl rfl hy_X11_in rfl ⟨Nat.le_of_ble_eq_true rfl, Nat.le_of_ble_eq_true rfl⟩ (Nat.le_of_ble_eq_true rfl) dX11_person_205 ?_
    obtain ⟨j208, h208, h⟩ := e_bd h
    have hj208 : zJ g x j208.1 222 [] [.int j208.2] := by
      obtain rfl := Option.some.inj h
      exact z_iret C E dX11_person_222
    have h := h208
    refine z_if_eq 220 C dX11_person_208 (by decide) (fun hc => ?_) (fun hc => ?_)
    · have h := e_t hc h
      refine z_ldc (v := (-1000000002 : Int32)) C (hsT _ tw_4_85) dX11_person_220 ?_
      obtain rfl := Option.some.inj h
      exact z_sub [] rfl hj208
    · have h := e_f hc h
      refine z_aload_n C dX11_person_211 rfl ?_
      refine z_iload_n C dX11_person_212 rfl ?_
      refine z_iload_n C dX11_person_213 rfl ?_
      obtain ⟨s214, h214, h⟩ := e_bd h
      refine z_callVi (As := [.int x1, .int x2]) C (c_X11_narrowed l g h214) rfl O_31 rfl (gcV hsT tw_4_97 cw_X11_narrowed) rfl rfl rfl hy_X11_narrowed rfl ⟨Nat.le_of_ble_eq_true rfl, Nat.le_of_ble_eq_true rfl⟩ (Nat.le_of_ble_eq_true rfl) dX11_person_214 ?_
      refine z_goto 222 C dX11_person_217 (by decide) ?_
      obtain rfl := Option.some.inj h
      exact z_sub [] rfl hj208
  · have h := e_t hc h
    refine z_ldc (v := (-1000000001 : Int32)) C (hsT _ tw_4_90) dX11_person_8 ?_
    obtain rfl := Option.some.inj h
    exact z_iret C E dX11_person_10
theorem hy_X11_quarter : yX11_quarter.cls = RX11 ∧ yX11_quarter.cls ≠ "java/lang/invoke/MethodHandle" ∧ yX11_quarter.cls ≠ "java/lang/invoke/VarHandle" ∧ (parseMethodDescriptor yX11_quarter.desc).map (fun d => d.parameters.length) = some 3 := by decide +kernel
def wX11_quarter : List Cond := Cond.code yX11_quarter cX11_quarter 4 (some .int) :: TB
def f_X11_quarter (M : MM) (x1 : Int32) (x2 : Int32) (x3 : Int32) : Option (Int32 × MM) :=
  (f_X11_isOne M x1).bind fun (v2 : Int32) =>
  if v2 = 0 then
    some ((-1000000001 : Int32), M)
  else
    (f_X11_in M x3.toInt64 (0 : Int64) (1 : Int64)).bind fun (v15 : Int32) =>
    if v15 = 0 then
      some ((-1000000002 : Int32), M)
    else
      (f_X11_lays M ).bind fun (M25 : MM) =>
      (z_ld M25 38 17 x1).bind fun (v36 : Int32) =>
      (f_X11_in M25 x2.toInt64 (0 : Int64) (v36 - (1 : Int32)).toInt64).bind fun (v40 : Int32) =>
      (if v40 = 0 then
        some (-1 : Int32)
      else
        if x3 = 0 then
          (z_ld M25 39 170 (((10 : Int32) * x1) + x2)).bind fun (v64 : Int32) =>
          some v64
        else
          (z_ld M25 40 170 (((10 : Int32) * x1) + x2)).bind fun (v78 : Int32) =>
          some v78
      ).bind fun (j43 : Int32) =>
        some (j43, M25)
set_option maxRecDepth 100000 in
set_option maxHeartbeats 4000000 in
theorem c_X11_quarter (l : Launch) (g : Gx) {M : MM} {x1 : Int32} {x2 : Int32} {x3 : Int32} {r : Int32 × MM} (h : f_X11_quarter M x1 x2 x3 = some r) : zMi l yX11_quarter wX11_quarter (rmm 6 136) [.ref (ga g 31), .int x1, .int x2, .int x3] g M r.1 r.2 := by
  refine zMi_of .int (by decide) rfl (Nat.le_of_ble_eq_true rfl) rfl rfl ?_
  intro x C E
  show zJ g x M 0 [(0, .ref (ga g 31)), (1, .int x1), (2, .int x2), (3, .int x3)] []
  unfold f_X11_quarter at h
  refine z_aload_n C dX11_quarter_0 rfl ?_
  refine z_iload_n C dX11_quarter_1 rfl ?_
  obtain ⟨v2, h2, h⟩ := e_bd h
  refine z_callVi (As := [.int x1]) C (c_X11_isOne l g h2) rfl O_31 rfl (gcV hsT tw_4_6 cw_X11_isOne) rfl rfl rfl hy_X11_isOne rfl ⟨Nat.le_of_ble_eq_true rfl, Nat.le_of_ble_eq_true rfl⟩ (Nat.le_of_ble_eq_true rfl) dX11_quarter_2 ?_
  refine z_if_ne 11 C dX11_quarter_5 (by decide) (fun hc => ?_) (fun hc => ?_)
  · have h := e_f hc h
    refine z_iload_n C dX11_quarter_11 rfl ?_
    refine z_i2l C dX11_quarter_12 ?_
    refine z_lconst (0 : Int64) C dX11_quarter_13 (by decide) ?_
    refine z_lconst (1 : Int64) C dX11_quarter_14 (by decide) ?_
    obtain ⟨v15, h15, h⟩ := e_bd h
    refine z_callSi (As := [.long x3.toInt64, .long (0 : Int64), .long (1 : Int64)]) C (c_X11_in l g h15) rfl (gcS hsT tw_4_10 cw_X11_in) rfl rfl rfl hy_X11_in rfl ⟨Nat.le_of_ble_eq_true rfl, Nat.le_of_ble_eq_true rfl⟩ (Nat.le_of_ble_eq_true rfl) dX11_quarter_15 ?_
    refine z_if_ne 24 C dX11_quarter_18 (by decide) (fun hc => ?_) (fun hc => ?_)
    · have h := e_f hc h
      refine z_aload_n C dX11_quarter_24 rfl ?_
      obtain ⟨M25, h25, h⟩ := e_bd h
      refine z_callVv (As := []) C (c_X11_lays l g h25) rfl O_31 rfl (gcV hsT tw_4_17 cw_X11_lays) rfl rfl rfl hy_X11_lays rfl ⟨Nat.le_of_ble_eq_true rfl, Nat.le_of_ble_eq_true rfl⟩ (Nat.le_of_ble_eq_true rfl) dX11_quarter_25 ?_
      refine z_iload_n C dX11_quarter_28 rfl ?_
      refine z_i2l C dX11_quarter_29 ?_
      refine z_lconst (0 : Int64) C dX11_quarter_30 (by decide) ?_
      refine z_aload_n C dX11_quarter_31 rfl ?_
      refine z_get C O_31 9 rfl (fun _ h9 => hsT _ (inX11 _ h9)) (by decide) (hsT _ tw_3_184) dX11_quarter_32 rfl ?_
      refine z_iload_n C dX11_quarter_35 rfl ?_
      obtain ⟨v36, h36, h⟩ := e_bd h
      refine z_iald C I_38 h36 dX11_quarter_36 ?_
      refine z_iconst (1 : Int32) C dX11_quarter_37 (by decide) ?_
      refine z_isub C dX11_quarter_38 ?_
      refine z_i2l C dX11_quarter_39 ?_
      obtain ⟨v40, h40, h⟩ := e_bd h
      refine z_callSi (As := [.long x2.toInt64, .long (0 : Int64), .long (v36 - (1 : Int32)).toInt64]) C (c_X11_in l g h40) rfl (gcS hsT tw_4_10 cw_X11_in) rfl rfl rfl hy_X11_in rfl ⟨Nat.le_of_ble_eq_true rfl, Nat.le_of_ble_eq_true rfl⟩ (Nat.le_of_ble_eq_true rfl) dX11_quarter_40 ?_
      obtain ⟨j43, h43, h⟩ := e_bd h
      have hj43 : zJ g x M25 79 [] [.int j43] := by
        obtain rfl := Option.some.inj h
        exact z_iret C E dX11_quarter_79
      have h := h43
      refine z_if_ne 50 C dX11_quarter_43 (by decide) (fun hc => ?_) (fun hc => ?_)
      · have h := e_f hc h
        refine z_iload_n C dX11_quarter_50 rfl ?_
        refine z_if_ne 68 C dX11_quarter_51 (by decide) (fun hc => ?_) (fun hc => ?_)
        · have h := e_f hc h
          refine z_aload_n C dX11_quarter_68 rfl ?_
          refine z_get C O_31 11 rfl (fun _ h9 => hsT _ (inX11 _ h9)) (by decide) (hsT _ tw_3_186) dX11_quarter_69 rfl ?_
          refine z_bipush (10 : Int32) C dX11_quarter_72 (by decide) ?_
          refine z_iload_n C dX11_quarter_74 rfl ?_
          refine z_imul C dX11_quarter_75 ?_
          refine z_iload_n C dX11_quarter_76 rfl ?_
          refine z_iadd C dX11_quarter_77 ?_
          obtain ⟨v78, h78, h⟩ := e_bd h
          refine z_iald C I_40 h78 dX11_quarter_78 ?_
          obtain rfl := Option.some.inj h
          exact z_sub [] rfl hj43
        · have h := e_t hc h
          refine z_aload_n C dX11_quarter_54 rfl ?_
          refine z_get C O_31 10 rfl (fun _ h9 => hsT _ (inX11 _ h9)) (by decide) (hsT _ tw_3_185) dX11_quarter_55 rfl ?_
          refine z_bipush (10 : Int32) C dX11_quarter_58 (by decide) ?_
          refine z_iload_n C dX11_quarter_60 rfl ?_
          refine z_imul C dX11_quarter_61 ?_
          refine z_iload_n C dX11_quarter_62 rfl ?_
          refine z_iadd C dX11_quarter_63 ?_
          obtain ⟨v64, h64, h⟩ := e_bd h
          refine z_iald C I_39 h64 dX11_quarter_64 ?_
          refine z_goto 79 C dX11_quarter_65 (by decide) ?_
          obtain rfl := Option.some.inj h
          exact z_sub [] rfl hj43
      · have h := e_t hc h
        refine z_iconst (-1 : Int32) C dX11_quarter_46 (by decide) ?_
        refine z_goto 79 C dX11_quarter_47 (by decide) ?_
        obtain rfl := Option.some.inj h
        exact z_sub [] rfl hj43
    · have h := e_t hc h
      refine z_ldc (v := (-1000000002 : Int32)) C (hsT _ tw_4_85) dX11_quarter_21 ?_
      obtain rfl := Option.some.inj h
      exact z_iret C E dX11_quarter_23
  · have h := e_t hc h
    refine z_ldc (v := (-1000000001 : Int32)) C (hsT _ tw_4_90) dX11_quarter_8 ?_
    obtain rfl := Option.some.inj h
    exact z_iret C E dX11_quarter_10
theorem hy_X11_steps : yX11_steps.cls = RX11 ∧ yX11_steps.cls ≠ "java/lang/invoke/MethodHandle" ∧ yX11_steps.cls ≠ "java/lang/invoke/VarHandle" ∧ (parseMethodDescriptor yX11_steps.desc).map (fun d => d.parameters.length) = some 2 := by decide +kernel
def wX11_steps : List Cond := Cond.code yX11_steps cX11_steps 7 none :: TB
def f_X11_steps_L2 (qa : Nat) : Nat → MM → Int32 → Int32 → Option (MM)
  | 0, _, _, _ => none
  | n + 1, M, x1, x3 =>
    if (16 : Int32) ≤ x3 then
      some M
    else
      (if x3 = x1 then
        some (0 : Int32)
      else
        some (-1 : Int32)
      ).bind fun (j12 : Int32) =>
        (z_sto M qa 16 x3 j12).bind fun (M20 : MM) =>
        f_X11_steps_L2 qa n M20 x1 (x3 + (1 : Int32))
def f_X11_steps_L36 (qa : Nat) : Nat → MM → Int32 → Int32 → Option (MM)
  | 0, _, _, _ => none
  | n + 1, M, x3, x4 =>
    if (2 : Int32) ≤ x4 then
      some M
    else
      (if x4 = 0 then
        some (45 : Int32)
      else
        some (61 : Int32)
      ).bind fun (j48 : Int32) =>
        (z_ld M 32 3243 (j48 + x3)).bind fun (v60 : Int32) =>
        (z_ld M qa 16 x3).bind fun (v65 : Int32) =>
        (if v65 < 0 then
          some (0 : Int32)
        else
          if v60 = (-1 : Int32) then
            some (0 : Int32)
          else
            (z_ld M qa 16 v60).bind fun (v78 : Int32) =>
            if v78 < 0 then
              some (1 : Int32)
            else
              (z_ld M qa 16 x3).bind fun (v84 : Int32) =>
              (z_ld M qa 16 v60).bind fun (v90 : Int32) =>
              if v90 ≤ (v84 + (1 : Int32)) then
                some (0 : Int32)
              else
                some (1 : Int32)
        ).bind fun (j66 : Int32) =>
          (if j66 = 0 then
            some x3
          else
            some v60
          ).bind fun (j104 : Int32) =>
            (if j66 = 0 then
              (z_ld M qa 16 x3).bind fun (v128 : Int32) =>
              some v128
            else
              (z_ld M qa 16 x3).bind fun (v120 : Int32) =>
              some (v120 + (1 : Int32))
            ).bind fun (j115 : Int32) =>
              (z_sto M qa 16 j104 j115).bind fun (M129 : MM) =>
              f_X11_steps_L36 qa n M129 x3 (x4 + (1 : Int32))
def f_X11_steps_L29 (qa : Nat) : Nat → MM → Int32 → Option (MM)
  | 0, _, _ => none
  | n + 1, M, x3 =>
    if x3 < 0 then
      some M
    else
      (f_X11_steps_L36 qa FU M x3 (0 : Int32)).bind fun (w36 : MM) =>
      f_X11_steps_L29 qa n w36 (x3 + (-1 : Int32))
def f_X11_steps (qa : Nat) (M : MM) (x1 : Int32) : Option MM :=
  (f_X11_steps_L2 qa FU M x1 (0 : Int32)).bind fun (w2 : MM) =>
  (f_X11_steps_L29 qa FU w2 x1).bind fun (w29 : MM) =>
  some w29
set_option maxRecDepth 100000 in
set_option maxHeartbeats 4000000 in
theorem lp_X11_steps_2_44 {l : Launch} {g : Gx} {x : Cx} (C : zC g x l RX11 cX11_steps wX11_steps (rmm 0 0) 7) {r : MM} : ∀ (n : Nat) (M : MM) (x1 x3 : Int32) , f_X11_steps_L2 44 n M x1 x3 = some r → zJ g x r 27 [(0, .ref (ga g 31)), (1, .int x1), (2, .ref (ga g 44))] [] → zJ g x M 2 [(0, .ref (ga g 31)), (1, .int x1), (2, .ref (ga g 44)), (3, .int x3)] [] := by
  intro n
  induction n with
  | zero =>
    intro M x1 x3 h hj
    exact absurd h (by simp [f_X11_steps_L2])
  | succ n ih =>
    intro M x1 x3 h hj
    rw [f_X11_steps_L2] at h
    refine z_iload_n C dX11_steps_2 rfl ?_
    refine z_bipush (16 : Int32) C dX11_steps_3 (by decide) ?_
    refine z_icmp_ge 27 C dX11_steps_5 (by decide) (fun hc => ?_) (fun hc => ?_)
    · have h := e_t hc h
      obtain rfl := Option.some.inj h
      exact z_sub [0, 1, 2] rfl hj
    · have h := e_f hc h
      refine z_aload_n C dX11_steps_8 rfl ?_
      refine z_iload_n C dX11_steps_9 rfl ?_
      refine z_iload_n C dX11_steps_10 rfl ?_
      refine z_iload_n C dX11_steps_11 rfl ?_
      obtain ⟨j12, h12, h⟩ := e_bd h
      have hj12 : zJ g x M 20 [(0, .ref (ga g 31)), (1, .int x1), (2, .ref (ga g 44)), (3, .int x3)] [.int j12, .int x3, .ref (ga g 44)] := by
        obtain ⟨M20, h20, h⟩ := e_bd h
        refine z_iast C I_44 h20 dX11_steps_20 ?_
        refine z_iinc (v := (x3 + (1 : Int32))) [(3, .int (x3 + (1 : Int32))), (0, .ref (ga g 31)), (1, .int x1), (2, .ref (ga g 44))] C dX11_steps_21 rfl rfl (by decide) rfl ?_
        refine z_goto 2 C dX11_steps_24 (by decide) ?_
        refine z_sub [1, 2, 3, 0] rfl ?_
        exact ih _ _ _ h hj
      have h := h12
      refine z_icmp_ne 19 C dX11_steps_12 (by decide) (fun hc => ?_) (fun hc => ?_)
      · have h := e_f hc h
        refine z_iconst (-1 : Int32) C dX11_steps_19 (by decide) ?_
        obtain rfl := Option.some.inj h
        exact z_sub [0, 1, 2, 3] rfl hj12
      · have h := e_t hc h
        refine z_iconst (0 : Int32) C dX11_steps_15 (by decide) ?_
        refine z_goto 20 C dX11_steps_16 (by decide) ?_
        obtain rfl := Option.some.inj h
        exact z_sub [0, 1, 2, 3] rfl hj12
set_option maxRecDepth 100000 in
set_option maxHeartbeats 4000000 in
theorem lp_X11_steps_36_44 {l : Launch} {g : Gx} {x : Cx} (C : zC g x l RX11 cX11_steps wX11_steps (rmm 0 0) 7) {r : MM} : ∀ (n : Nat) (M : MM) (x3 x4 : Int32) , f_X11_steps_L36 44 n M x3 x4 = some r → zJ g x r 136 [(0, .ref (ga g 31)), (2, .ref (ga g 44)), (3, .int x3)] [] → zJ g x M 36 [(0, .ref (ga g 31)), (2, .ref (ga g 44)), (3, .int x3), (4, .int x4)] [] := by
  intro n
  induction n with
  | zero =>
    intro M x3 x4 h hj
    exact absurd h (by simp [f_X11_steps_L36])
  | succ n ih =>
    intro M x3 x4 h hj
    rw [f_X11_steps_L36] at h
    refine z_iload C dX11_steps_36 rfl ?_
    refine z_iconst (2 : Int32) C dX11_steps_38 (by decide) ?_
    refine z_icmp_ge 136 C dX11_steps_39 (by decide) (fun hc => ?_) (fun hc => ?_)
    · have h := e_t hc h
      obtain rfl := Option.some.inj h
      exact z_sub [0, 1, 2] rfl hj
    · have h := e_f hc h
      refine z_aload_n C dX11_steps_42 rfl ?_
      refine z_get C O_31 0 rfl (fun _ h9 => hsT _ (inX11 _ h9)) (by decide) (hsT _ tw_3_175) dX11_steps_43 rfl ?_
      refine z_iload C dX11_steps_46 rfl ?_
      obtain ⟨j48, h48, h⟩ := e_bd h
      have hj48 : zJ g x M 58 [(0, .ref (ga g 31)), (2, .ref (ga g 44)), (3, .int x3), (4, .int x4)] [.int j48, .ref (ga g 32)] := by
        refine z_iload_n C dX11_steps_58 rfl ?_
        refine z_iadd C dX11_steps_59 ?_
        obtain ⟨v60, h60, h⟩ := e_bd h
        refine z_iald C I_32 h60 dX11_steps_60 ?_
        refine z_istore [(5, .int v60), (0, .ref (ga g 31)), (2, .ref (ga g 44)), (3, .int x3), (4, .int x4)] C dX11_steps_61 (by decide) rfl ?_
        refine z_aload_n C dX11_steps_63 rfl ?_
        refine z_iload_n C dX11_steps_64 rfl ?_
        obtain ⟨v65, h65, h⟩ := e_bd h
        refine z_iald C I_44 h65 dX11_steps_65 ?_
        obtain ⟨j66, h66, h⟩ := e_bd h
        have hj66 : zJ g x M 99 [(0, .ref (ga g 31)), (2, .ref (ga g 44)), (3, .int x3), (4, .int x4), (5, .int v60)] [.int j66] := by
          refine z_istore [(6, .int j66), (0, .ref (ga g 31)), (2, .ref (ga g 44)), (3, .int x3), (4, .int x4), (5, .int v60)] C dX11_steps_99 (by decide) rfl ?_
          refine z_aload_n C dX11_steps_101 rfl ?_
          refine z_iload C dX11_steps_102 rfl ?_
          obtain ⟨j104, h104, h⟩ := e_bd h
          have hj104 : zJ g x M 113 [(0, .ref (ga g 31)), (2, .ref (ga g 44)), (3, .int x3), (4, .int x4), (6, .int j66)] [.int j104, .ref (ga g 44)] := by
            refine z_iload C dX11_steps_113 rfl ?_
            obtain ⟨j115, h115, h⟩ := e_bd h
            have hj115 : zJ g x M 129 [(0, .ref (ga g 31)), (2, .ref (ga g 44)), (3, .int x3), (4, .int x4)] [.int j115, .int j104, .ref (ga g 44)] := by
              obtain ⟨M129, h129, h⟩ := e_bd h
              refine z_iast C I_44 h129 dX11_steps_129 ?_
              refine z_iinc (v := (x4 + (1 : Int32))) [(4, .int (x4 + (1 : Int32))), (0, .ref (ga g 31)), (2, .ref (ga g 44)), (3, .int x3)] C dX11_steps_130 rfl rfl (by decide) rfl ?_
              refine z_goto 36 C dX11_steps_133 (by decide) ?_
              refine z_sub [1, 2, 3, 0] rfl ?_
              exact ih _ _ _ h hj
            have h := h115
            refine z_if_eq 126 C dX11_steps_115 (by decide) (fun hc => ?_) (fun hc => ?_)
            · have h := e_t hc h
              refine z_aload_n C dX11_steps_126 rfl ?_
              refine z_iload_n C dX11_steps_127 rfl ?_
              obtain ⟨v128, h128, h⟩ := e_bd h
              refine z_iald C I_44 h128 dX11_steps_128 ?_
              obtain rfl := Option.some.inj h
              exact z_sub [0, 1, 2, 3] rfl hj115
            · have h := e_f hc h
              refine z_aload_n C dX11_steps_118 rfl ?_
              refine z_iload_n C dX11_steps_119 rfl ?_
              obtain ⟨v120, h120, h⟩ := e_bd h
              refine z_iald C I_44 h120 dX11_steps_120 ?_
              refine z_iconst (1 : Int32) C dX11_steps_121 (by decide) ?_
              refine z_iadd C dX11_steps_122 ?_
              refine z_goto 129 C dX11_steps_123 (by decide) ?_
              obtain rfl := Option.some.inj h
              exact z_sub [0, 1, 2, 3] rfl hj115
          have h := h104
          refine z_if_eq 112 C dX11_steps_104 (by decide) (fun hc => ?_) (fun hc => ?_)
          · have h := e_t hc h
            refine z_iload_n C dX11_steps_112 rfl ?_
            obtain rfl := Option.some.inj h
            exact z_sub [1, 2, 3, 4, 0] rfl hj104
          · have h := e_f hc h
            refine z_iload C dX11_steps_107 rfl ?_
            refine z_goto 113 C dX11_steps_109 (by decide) ?_
            obtain rfl := Option.some.inj h
            exact z_sub [1, 2, 3, 4, 0] rfl hj104
        have h := h66
        refine z_if_lt 98 C dX11_steps_66 (by decide) (fun hc => ?_) (fun hc => ?_)
        · have h := e_t hc h
          refine z_iconst (0 : Int32) C dX11_steps_98 (by decide) ?_
          obtain rfl := Option.some.inj h
          exact z_sub [1, 2, 3, 4, 0] rfl hj66
        · have h := e_f hc h
          refine z_iload C dX11_steps_69 rfl ?_
          refine z_iconst (-1 : Int32) C dX11_steps_71 (by decide) ?_
          refine z_icmp_eq 98 C dX11_steps_72 (by decide) (fun hc => ?_) (fun hc => ?_)
          · have h := e_t hc h
            refine z_iconst (0 : Int32) C dX11_steps_98 (by decide) ?_
            obtain rfl := Option.some.inj h
            exact z_sub [1, 2, 3, 4, 0] rfl hj66
          · have h := e_f hc h
            refine z_aload_n C dX11_steps_75 rfl ?_
            refine z_iload C dX11_steps_76 rfl ?_
            obtain ⟨v78, h78, h⟩ := e_bd h
            refine z_iald C I_44 h78 dX11_steps_78 ?_
            refine z_if_lt 94 C dX11_steps_79 (by decide) (fun hc => ?_) (fun hc => ?_)
            · have h := e_t hc h
              refine z_iconst (1 : Int32) C dX11_steps_94 (by decide) ?_
              refine z_goto 99 C dX11_steps_95 (by decide) ?_
              obtain rfl := Option.some.inj h
              exact z_sub [1, 2, 3, 4, 0] rfl hj66
            · have h := e_f hc h
              refine z_aload_n C dX11_steps_82 rfl ?_
              refine z_iload_n C dX11_steps_83 rfl ?_
              obtain ⟨v84, h84, h⟩ := e_bd h
              refine z_iald C I_44 h84 dX11_steps_84 ?_
              refine z_iconst (1 : Int32) C dX11_steps_85 (by decide) ?_
              refine z_iadd C dX11_steps_86 ?_
              refine z_aload_n C dX11_steps_87 rfl ?_
              refine z_iload C dX11_steps_88 rfl ?_
              obtain ⟨v90, h90, h⟩ := e_bd h
              refine z_iald C I_44 h90 dX11_steps_90 ?_
              refine z_icmp_ge 98 C dX11_steps_91 (by decide) (fun hc => ?_) (fun hc => ?_)
              · have h := e_t hc h
                refine z_iconst (0 : Int32) C dX11_steps_98 (by decide) ?_
                obtain rfl := Option.some.inj h
                exact z_sub [1, 2, 3, 4, 0] rfl hj66
              · have h := e_f hc h
                refine z_iconst (1 : Int32) C dX11_steps_94 (by decide) ?_
                refine z_goto 99 C dX11_steps_95 (by decide) ?_
                obtain rfl := Option.some.inj h
                exact z_sub [1, 2, 3, 4, 0] rfl hj66
      have h := h48
      refine z_if_ne 56 C dX11_steps_48 (by decide) (fun hc => ?_) (fun hc => ?_)
      · have h := e_f hc h
        refine z_bipush (61 : Int32) C dX11_steps_56 (by decide) ?_
        obtain rfl := Option.some.inj h
        exact z_sub [0, 1, 2, 3] rfl hj48
      · have h := e_t hc h
        refine z_bipush (45 : Int32) C dX11_steps_51 (by decide) ?_
        refine z_goto 58 C dX11_steps_53 (by decide) ?_
        obtain rfl := Option.some.inj h
        exact z_sub [0, 1, 2, 3] rfl hj48
set_option maxRecDepth 100000 in
set_option maxHeartbeats 4000000 in
theorem lp_X11_steps_29_44 {l : Launch} {g : Gx} {x : Cx} (C : zC g x l RX11 cX11_steps wX11_steps (rmm 0 0) 7) {r : MM} : ∀ (n : Nat) (M : MM) (x3 : Int32) , f_X11_steps_L29 44 n M x3 = some r → zJ g x r 142 [] [] → zJ g x M 29 [(0, .ref (ga g 31)), (2, .ref (ga g 44)), (3, .int x3)] [] := by
  intro n
  induction n with
  | zero =>
    intro M x3 h hj
    exact absurd h (by simp [f_X11_steps_L29])
  | succ n ih =>
    intro M x3 h hj
    rw [f_X11_steps_L29] at h
    refine z_iload_n C dX11_steps_29 rfl ?_
    refine z_if_lt 142 C dX11_steps_30 (by decide) (fun hc => ?_) (fun hc => ?_)
    · have h := e_t hc h
      obtain rfl := Option.some.inj h
      exact z_sub [] rfl hj
    · have h := e_f hc h
      refine z_iconst (0 : Int32) C dX11_steps_33 (by decide) ?_
      refine z_istore [(4, .int (0 : Int32)), (0, .ref (ga g 31)), (2, .ref (ga g 44)), (3, .int x3)] C dX11_steps_34 (by decide) rfl ?_
      obtain ⟨w36, h36, h⟩ := e_bd h
      refine z_sub [1, 2, 3, 0] rfl ?_
      refine lp_X11_steps_36_44 C _ _ _ _ h36 ?_
      refine z_iinc (v := (x3 + (-1 : Int32))) [(3, .int (x3 + (-1 : Int32))), (0, .ref (ga g 31)), (2, .ref (ga g 44))] C dX11_steps_136 rfl rfl (by decide) rfl ?_
      refine z_goto 29 C dX11_steps_139 (by decide) ?_
      refine z_sub [1, 2, 0] rfl ?_
      exact ih _ _ h hj
set_option maxRecDepth 100000 in
set_option maxHeartbeats 4000000 in
theorem c_X11_steps_44 (l : Launch) (g : Gx) {M : MM} {x1 : Int32} {r : MM} (h : f_X11_steps 44 M x1 = some r) : zMv l yX11_steps wX11_steps (rmm 0 0) [.ref (ga g 31), .int x1, .ref (ga g 44)] g M r := by
  refine zMv_of (by decide) rfl (Nat.le_of_ble_eq_true rfl) rfl rfl ?_
  intro x C E
  show zJ g x M 0 [(0, .ref (ga g 31)), (1, .int x1), (2, .ref (ga g 44))] []
  unfold f_X11_steps at h
  refine z_iconst (0 : Int32) C dX11_steps_0 (by decide) ?_
  refine z_istore_n [(3, .int (0 : Int32)), (0, .ref (ga g 31)), (1, .int x1), (2, .ref (ga g 44))] C dX11_steps_1 (by decide) rfl ?_
  obtain ⟨w2, h2, h⟩ := e_bd h
  refine z_sub [1, 2, 3, 0] rfl ?_
  refine lp_X11_steps_2_44 C _ _ _ _ h2 ?_
  refine z_iload_n C dX11_steps_27 rfl ?_
  refine z_istore_n [(3, .int x1), (0, .ref (ga g 31)), (1, .int x1), (2, .ref (ga g 44))] C dX11_steps_28 (by decide) rfl ?_
  obtain ⟨w29, h29, h⟩ := e_bd h
  refine z_sub [1, 3, 0] rfl ?_
  refine lp_X11_steps_29_44 C _ _ _ h29 ?_
  obtain rfl := Option.some.inj h
  exact z_vret C E dX11_steps_142
set_option maxRecDepth 100000 in
set_option maxHeartbeats 4000000 in
theorem lp_X11_steps_2_45 {l : Launch} {g : Gx} {x : Cx} (C : zC g x l RX11 cX11_steps wX11_steps (rmm 0 0) 7) {r : MM} : ∀ (n : Nat) (M : MM) (x1 x3 : Int32) , f_X11_steps_L2 45 n M x1 x3 = some r → zJ g x r 27 [(0, .ref (ga g 31)), (1, .int x1), (2, .ref (ga g 45))] [] → zJ g x M 2 [(0, .ref (ga g 31)), (1, .int x1), (2, .ref (ga g 45)), (3, .int x3)] [] := by
  intro n
  induction n with
  | zero =>
    intro M x1 x3 h hj
    exact absurd h (by simp [f_X11_steps_L2])
  | succ n ih =>
    intro M x1 x3 h hj
    rw [f_X11_steps_L2] at h
    refine z_iload_n C dX11_steps_2 rfl ?_
    refine z_bipush (16 : Int32) C dX11_steps_3 (by decide) ?_
    refine z_icmp_ge 27 C dX11_steps_5 (by decide) (fun hc => ?_) (fun hc => ?_)
    · have h := e_t hc h
      obtain rfl := Option.some.inj h
      exact z_sub [0, 1, 2] rfl hj
    · have h := e_f hc h
      refine z_aload_n C dX11_steps_8 rfl ?_
      refine z_iload_n C dX11_steps_9 rfl ?_
      refine z_iload_n C dX11_steps_10 rfl ?_
      refine z_iload_n C dX11_steps_11 rfl ?_
      obtain ⟨j12, h12, h⟩ := e_bd h
      have hj12 : zJ g x M 20 [(0, .ref (ga g 31)), (1, .int x1), (2, .ref (ga g 45)), (3, .int x3)] [.int j12, .int x3, .ref (ga g 45)] := by
        obtain ⟨M20, h20, h⟩ := e_bd h
        refine z_iast C I_45 h20 dX11_steps_20 ?_
        refine z_iinc (v := (x3 + (1 : Int32))) [(3, .int (x3 + (1 : Int32))), (0, .ref (ga g 31)), (1, .int x1), (2, .ref (ga g 45))] C dX11_steps_21 rfl rfl (by decide) rfl ?_
        refine z_goto 2 C dX11_steps_24 (by decide) ?_
        refine z_sub [1, 2, 3, 0] rfl ?_
        exact ih _ _ _ h hj
      have h := h12
      refine z_icmp_ne 19 C dX11_steps_12 (by decide) (fun hc => ?_) (fun hc => ?_)
      · have h := e_f hc h
        refine z_iconst (-1 : Int32) C dX11_steps_19 (by decide) ?_
        obtain rfl := Option.some.inj h
        exact z_sub [0, 1, 2, 3] rfl hj12
      · have h := e_t hc h
        refine z_iconst (0 : Int32) C dX11_steps_15 (by decide) ?_
        refine z_goto 20 C dX11_steps_16 (by decide) ?_
        obtain rfl := Option.some.inj h
        exact z_sub [0, 1, 2, 3] rfl hj12
set_option maxRecDepth 100000 in
set_option maxHeartbeats 4000000 in
theorem lp_X11_steps_36_45 {l : Launch} {g : Gx} {x : Cx} (C : zC g x l RX11 cX11_steps wX11_steps (rmm 0 0) 7) {r : MM} : ∀ (n : Nat) (M : MM) (x3 x4 : Int32) , f_X11_steps_L36 45 n M x3 x4 = some r → zJ g x r 136 [(0, .ref (ga g 31)), (2, .ref (ga g 45)), (3, .int x3)] [] → zJ g x M 36 [(0, .ref (ga g 31)), (2, .ref (ga g 45)), (3, .int x3), (4, .int x4)] [] := by
  intro n
  induction n with
  | zero =>
    intro M x3 x4 h hj
    exact absurd h (by simp [f_X11_steps_L36])
  | succ n ih =>
    intro M x3 x4 h hj
    rw [f_X11_steps_L36] at h
    refine z_iload C dX11_steps_36 rfl ?_
    refine z_iconst (2 : Int32) C dX11_steps_38 (by decide) ?_
    refine z_icmp_ge 136 C dX11_steps_39 (by decide) (fun hc => ?_) (fun hc => ?_)
    · have h := e_t hc h
      obtain rfl := Option.some.inj h
      exact z_sub [0, 1, 2] rfl hj
    · have h := e_f hc h
      refine z_aload_n C dX11_steps_42 rfl ?_
      refine z_get C O_31 0 rfl (fun _ h9 => hsT _ (inX11 _ h9)) (by decide) (hsT _ tw_3_175) dX11_steps_43 rfl ?_
      refine z_iload C dX11_steps_46 rfl ?_
      obtain ⟨j48, h48, h⟩ := e_bd h
      have hj48 : zJ g x M 58 [(0, .ref (ga g 31)), (2, .ref (ga g 45)), (3, .int x3), (4, .int x4)] [.int j48, .ref (ga g 32)] := by
        refine z_iload_n C dX11_steps_58 rfl ?_
        refine z_iadd C dX11_steps_59 ?_
        obtain ⟨v60, h60, h⟩ := e_bd h
        refine z_iald C I_32 h60 dX11_steps_60 ?_
        refine z_istore [(5, .int v60), (0, .ref (ga g 31)), (2, .ref (ga g 45)), (3, .int x3), (4, .int x4)] C dX11_steps_61 (by decide) rfl ?_
        refine z_aload_n C dX11_steps_63 rfl ?_
        refine z_iload_n C dX11_steps_64 rfl ?_
        obtain ⟨v65, h65, h⟩ := e_bd h
        refine z_iald C I_45 h65 dX11_steps_65 ?_
        obtain ⟨j66, h66, h⟩ := e_bd h
        have hj66 : zJ g x M 99 [(0, .ref (ga g 31)), (2, .ref (ga g 45)), (3, .int x3), (4, .int x4), (5, .int v60)] [.int j66] := by
          refine z_istore [(6, .int j66), (0, .ref (ga g 31)), (2, .ref (ga g 45)), (3, .int x3), (4, .int x4), (5, .int v60)] C dX11_steps_99 (by decide) rfl ?_
          refine z_aload_n C dX11_steps_101 rfl ?_
          refine z_iload C dX11_steps_102 rfl ?_
          obtain ⟨j104, h104, h⟩ := e_bd h
          have hj104 : zJ g x M 113 [(0, .ref (ga g 31)), (2, .ref (ga g 45)), (3, .int x3), (4, .int x4), (6, .int j66)] [.int j104, .ref (ga g 45)] := by
            refine z_iload C dX11_steps_113 rfl ?_
            obtain ⟨j115, h115, h⟩ := e_bd h
            have hj115 : zJ g x M 129 [(0, .ref (ga g 31)), (2, .ref (ga g 45)), (3, .int x3), (4, .int x4)] [.int j115, .int j104, .ref (ga g 45)] := by
              obtain ⟨M129, h129, h⟩ := e_bd h
              refine z_iast C I_45 h129 dX11_steps_129 ?_
              refine z_iinc (v := (x4 + (1 : Int32))) [(4, .int (x4 + (1 : Int32))), (0, .ref (ga g 31)), (2, .ref (ga g 45)), (3, .int x3)] C dX11_steps_130 rfl rfl (by decide) rfl ?_
              refine z_goto 36 C dX11_steps_133 (by decide) ?_
              refine z_sub [1, 2, 3, 0] rfl ?_
              exact ih _ _ _ h hj
            have h := h115
            refine z_if_eq 126 C dX11_steps_115 (by decide) (fun hc => ?_) (fun hc => ?_)
            · have h := e_t hc h
              refine z_aload_n C dX11_steps_126 rfl ?_
              refine z_iload_n C dX11_steps_127 rfl ?_
              obtain ⟨v128, h128, h⟩ := e_bd h
              refine z_iald C I_45 h128 dX11_steps_128 ?_
              obtain rfl := Option.some.inj h
              exact z_sub [0, 1, 2, 3] rfl hj115
            · have h := e_f hc h
              refine z_aload_n C dX11_steps_118 rfl ?_
              refine z_iload_n C dX11_steps_119 rfl ?_
              obtain ⟨v120, h120, h⟩ := e_bd h
              refine z_iald C I_45 h120 dX11_steps_120 ?_
              refine z_iconst (1 : Int32) C dX11_steps_121 (by decide) ?_
              refine z_iadd C dX11_steps_122 ?_
              refine z_goto 129 C dX11_steps_123 (by decide) ?_
              obtain rfl := Option.some.inj h
              exact z_sub [0, 1, 2, 3] rfl hj115
          have h := h104
          refine z_if_eq 112 C dX11_steps_104 (by decide) (fun hc => ?_) (fun hc => ?_)
          · have h := e_t hc h
            refine z_iload_n C dX11_steps_112 rfl ?_
            obtain rfl := Option.some.inj h
            exact z_sub [1, 2, 3, 4, 0] rfl hj104
          · have h := e_f hc h
            refine z_iload C dX11_steps_107 rfl ?_
            refine z_goto 113 C dX11_steps_109 (by decide) ?_
            obtain rfl := Option.some.inj h
            exact z_sub [1, 2, 3, 4, 0] rfl hj104
        have h := h66
        refine z_if_lt 98 C dX11_steps_66 (by decide) (fun hc => ?_) (fun hc => ?_)
        · have h := e_t hc h
          refine z_iconst (0 : Int32) C dX11_steps_98 (by decide) ?_
          obtain rfl := Option.some.inj h
          exact z_sub [1, 2, 3, 4, 0] rfl hj66
        · have h := e_f hc h
          refine z_iload C dX11_steps_69 rfl ?_
          refine z_iconst (-1 : Int32) C dX11_steps_71 (by decide) ?_
          refine z_icmp_eq 98 C dX11_steps_72 (by decide) (fun hc => ?_) (fun hc => ?_)
          · have h := e_t hc h
            refine z_iconst (0 : Int32) C dX11_steps_98 (by decide) ?_
            obtain rfl := Option.some.inj h
            exact z_sub [1, 2, 3, 4, 0] rfl hj66
          · have h := e_f hc h
            refine z_aload_n C dX11_steps_75 rfl ?_
            refine z_iload C dX11_steps_76 rfl ?_
            obtain ⟨v78, h78, h⟩ := e_bd h
            refine z_iald C I_45 h78 dX11_steps_78 ?_
            refine z_if_lt 94 C dX11_steps_79 (by decide) (fun hc => ?_) (fun hc => ?_)
            · have h := e_t hc h
              refine z_iconst (1 : Int32) C dX11_steps_94 (by decide) ?_
              refine z_goto 99 C dX11_steps_95 (by decide) ?_
              obtain rfl := Option.some.inj h
              exact z_sub [1, 2, 3, 4, 0] rfl hj66
            · have h := e_f hc h
              refine z_aload_n C dX11_steps_82 rfl ?_
              refine z_iload_n C dX11_steps_83 rfl ?_
              obtain ⟨v84, h84, h⟩ := e_bd h
              refine z_iald C I_45 h84 dX11_steps_84 ?_
              refine z_iconst (1 : Int32) C dX11_steps_85 (by decide) ?_
              refine z_iadd C dX11_steps_86 ?_
              refine z_aload_n C dX11_steps_87 rfl ?_
              refine z_iload C dX11_steps_88 rfl ?_
              obtain ⟨v90, h90, h⟩ := e_bd h
              refine z_iald C I_45 h90 dX11_steps_90 ?_
              refine z_icmp_ge 98 C dX11_steps_91 (by decide) (fun hc => ?_) (fun hc => ?_)
              · have h := e_t hc h
                refine z_iconst (0 : Int32) C dX11_steps_98 (by decide) ?_
                obtain rfl := Option.some.inj h
                exact z_sub [1, 2, 3, 4, 0] rfl hj66
              · have h := e_f hc h
                refine z_iconst (1 : Int32) C dX11_steps_94 (by decide) ?_
                refine z_goto 99 C dX11_steps_95 (by decide) ?_
                obtain rfl := Option.some.inj h
                exact z_sub [1, 2, 3, 4, 0] rfl hj66
      have h := h48
      refine z_if_ne 56 C dX11_steps_48 (by decide) (fun hc => ?_) (fun hc => ?_)
      · have h := e_f hc h
        refine z_bipush (61 : Int32) C dX11_steps_56 (by decide) ?_
        obtain rfl := Option.some.inj h
        exact z_sub [0, 1, 2, 3] rfl hj48
      · have h := e_t hc h
        refine z_bipush (45 : Int32) C dX11_steps_51 (by decide) ?_
        refine z_goto 58 C dX11_steps_53 (by decide) ?_
        obtain rfl := Option.some.inj h
        exact z_sub [0, 1, 2, 3] rfl hj48
set_option maxRecDepth 100000 in
set_option maxHeartbeats 4000000 in
theorem lp_X11_steps_29_45 {l : Launch} {g : Gx} {x : Cx} (C : zC g x l RX11 cX11_steps wX11_steps (rmm 0 0) 7) {r : MM} : ∀ (n : Nat) (M : MM) (x3 : Int32) , f_X11_steps_L29 45 n M x3 = some r → zJ g x r 142 [] [] → zJ g x M 29 [(0, .ref (ga g 31)), (2, .ref (ga g 45)), (3, .int x3)] [] := by
  intro n
  induction n with
  | zero =>
    intro M x3 h hj
    exact absurd h (by simp [f_X11_steps_L29])
  | succ n ih =>
    intro M x3 h hj
    rw [f_X11_steps_L29] at h
    refine z_iload_n C dX11_steps_29 rfl ?_
    refine z_if_lt 142 C dX11_steps_30 (by decide) (fun hc => ?_) (fun hc => ?_)
    · have h := e_t hc h
      obtain rfl := Option.some.inj h
      exact z_sub [] rfl hj
    · have h := e_f hc h
      refine z_iconst (0 : Int32) C dX11_steps_33 (by decide) ?_
      refine z_istore [(4, .int (0 : Int32)), (0, .ref (ga g 31)), (2, .ref (ga g 45)), (3, .int x3)] C dX11_steps_34 (by decide) rfl ?_
      obtain ⟨w36, h36, h⟩ := e_bd h
      refine z_sub [1, 2, 3, 0] rfl ?_
      refine lp_X11_steps_36_45 C _ _ _ _ h36 ?_
      refine z_iinc (v := (x3 + (-1 : Int32))) [(3, .int (x3 + (-1 : Int32))), (0, .ref (ga g 31)), (2, .ref (ga g 45))] C dX11_steps_136 rfl rfl (by decide) rfl ?_
      refine z_goto 29 C dX11_steps_139 (by decide) ?_
      refine z_sub [1, 2, 0] rfl ?_
      exact ih _ _ h hj
set_option maxRecDepth 100000 in
set_option maxHeartbeats 4000000 in
theorem c_X11_steps_45 (l : Launch) (g : Gx) {M : MM} {x1 : Int32} {r : MM} (h : f_X11_steps 45 M x1 = some r) : zMv l yX11_steps wX11_steps (rmm 0 0) [.ref (ga g 31), .int x1, .ref (ga g 45)] g M r := by
  refine zMv_of (by decide) rfl (Nat.le_of_ble_eq_true rfl) rfl rfl ?_
  intro x C E
  show zJ g x M 0 [(0, .ref (ga g 31)), (1, .int x1), (2, .ref (ga g 45))] []
  unfold f_X11_steps at h
  refine z_iconst (0 : Int32) C dX11_steps_0 (by decide) ?_
  refine z_istore_n [(3, .int (0 : Int32)), (0, .ref (ga g 31)), (1, .int x1), (2, .ref (ga g 45))] C dX11_steps_1 (by decide) rfl ?_
  obtain ⟨w2, h2, h⟩ := e_bd h
  refine z_sub [1, 2, 3, 0] rfl ?_
  refine lp_X11_steps_2_45 C _ _ _ _ h2 ?_
  refine z_iload_n C dX11_steps_27 rfl ?_
  refine z_istore_n [(3, .int x1), (0, .ref (ga g 31)), (1, .int x1), (2, .ref (ga g 45))] C dX11_steps_28 (by decide) rfl ?_
  obtain ⟨w29, h29, h⟩ := e_bd h
  refine z_sub [1, 3, 0] rfl ?_
  refine lp_X11_steps_29_45 C _ _ _ h29 ?_
  obtain rfl := Option.some.inj h
  exact z_vret C E dX11_steps_142
theorem hy_X11_kin : yX11_kin.cls = RX11 ∧ yX11_kin.cls ≠ "java/lang/invoke/MethodHandle" ∧ yX11_kin.cls ≠ "java/lang/invoke/VarHandle" ∧ (parseMethodDescriptor yX11_kin.desc).map (fun d => d.parameters.length) = some 3 := by decide +kernel
def wX11_kin : List Cond := Cond.code yX11_kin cX11_kin 9 (some .int) :: TB
def f_X11_kin_L59 : Nat → MM → Int32 → Int32 → Int32 → Int32 → Option (Int32 × Int32)
  | 0, _, _, _, _, _ => none
  | n + 1, M, x3, x4, x5, x6 =>
    (z_ld M 32 3243 (0 : Int32)).bind fun (v66 : Int32) =>
    if v66 ≤ x6 then
      some (x4, x5)
    else
      (z_ld M 44 16 x6).bind fun (v76 : Int32) =>
      (z_ld M 45 16 x6).bind fun (v83 : Int32) =>
      (z_ld M 44 16 x6).bind fun (v93 : Int32) =>
      (if v93 < 0 then
        some (0 : Int32)
      else
        (z_ld M 45 16 x6).bind fun (v103 : Int32) =>
        if v103 < 0 then
          some (0 : Int32)
        else
          if x4 = (-1 : Int32) then
            some (1 : Int32)
          else
            if x4 < (v76 + v83) then
              some (0 : Int32)
            else
              some (1 : Int32)
      ).bind fun (j94 : Int32) =>
        (if j94 = 0 then
          some x4
        else
          some (v76 + v83)
        ).bind fun (j129 : Int32) =>
          (if j94 = 0 then
            some x5
          else
            some x6
          ).bind fun (j143 : Int32) =>
            f_X11_kin_L59 n M x3 j129 j143 (x6 + (1 : Int32))
def f_X11_kin (M : MM) (x1 : Int32) (x2 : Int32) (x3 : Int32) : Option (Int32 × MM) :=
  (f_X11_isOne M x1).bind fun (v2 : Int32) =>
  if v2 = 0 then
    some ((-1000000001 : Int32), M)
  else
    (f_X11_isOne M x2).bind fun (v10 : Int32) =>
    if v10 = 0 then
      some ((-1000000001 : Int32), M)
    else
      (f_X11_in M x3.toInt64 (0 : Int64) (1 : Int64)).bind fun (v23 : Int32) =>
      if v23 = 0 then
        some ((-1000000002 : Int32), M)
      else
        (f_X11_steps 44 M x1).bind fun (M38 : MM) =>
        (f_X11_steps 45 M38 x2).bind fun (M47 : MM) =>
        (f_X11_kin_L59 FU M47 x3 (-1 : Int32) (-1 : Int32) (0 : Int32)).bind fun (w59 : Int32 × Int32) =>
        (if x3 = 0 then
          some w59.1
        else
          some w59.2
        ).bind fun (j162 : Int32) =>
          some (j162, M47)
set_option maxRecDepth 100000 in
set_option maxHeartbeats 4000000 in
theorem lp_X11_kin_59 {l : Launch} {g : Gx} {x : Cx} (C : zC g x l RX11 cX11_kin wX11_kin (rmm 2 46) 9) {r : Int32 × Int32} : ∀ (n : Nat) (M : MM) (x3 x4 x5 x6 : Int32) , f_X11_kin_L59 n M x3 x4 x5 x6 = some r → zJ g x M 161 [(3, .int x3), (4, .int r.1), (5, .int r.2)] [] → zJ g x M 59 [(0, .ref (ga g 31)), (3, .int x3), (4, .int x4), (5, .int x5), (6, .int x6)] [] := by
  intro n
  induction n with
  | zero =>
    intro M x3 x4 x5 x6 h hj
    exact absurd h (by simp [f_X11_kin_L59])
  | succ n ih =>
    intro M x3 x4 x5 x6 h hj
    rw [f_X11_kin_L59] at h
    refine z_iload C dX11_kin_59 rfl ?_
    refine z_aload_n C dX11_kin_61 rfl ?_
    refine z_get C O_31 0 rfl (fun _ h9 => hsT _ (inX11 _ h9)) (by decide) (hsT _ tw_3_175) dX11_kin_62 rfl ?_
    refine z_iconst (0 : Int32) C dX11_kin_65 (by decide) ?_
    obtain ⟨v66, h66, h⟩ := e_bd h
    refine z_iald C I_32 h66 dX11_kin_66 ?_
    refine z_icmp_ge 161 C dX11_kin_67 (by decide) (fun hc => ?_) (fun hc => ?_)
    · have h := e_t hc h
      obtain rfl := Option.some.inj h
      exact z_sub [1, 2, 3] rfl hj
    · have h := e_f hc h
      refine z_aload_n C dX11_kin_70 rfl ?_
      refine z_get C O_31 16 rfl (fun _ h9 => hsT _ (inX11 _ h9)) (by decide) (hsT _ tw_3_191) dX11_kin_71 rfl ?_
      refine z_iload C dX11_kin_74 rfl ?_
      obtain ⟨v76, h76, h⟩ := e_bd h
      refine z_iald C I_44 h76 dX11_kin_76 ?_
      refine z_aload_n C dX11_kin_77 rfl ?_
      refine z_get C O_31 17 rfl (fun _ h9 => hsT _ (inX11 _ h9)) (by decide) (hsT _ tw_3_192) dX11_kin_78 rfl ?_
      refine z_iload C dX11_kin_81 rfl ?_
      obtain ⟨v83, h83, h⟩ := e_bd h
      refine z_iald C I_45 h83 dX11_kin_83 ?_
      refine z_iadd C dX11_kin_84 ?_
      refine z_istore [(7, .int (v76 + v83)), (0, .ref (ga g 31)), (3, .int x3), (4, .int x4), (5, .int x5), (6, .int x6)] C dX11_kin_85 (by decide) rfl ?_
      refine z_aload_n C dX11_kin_87 rfl ?_
      refine z_get C O_31 16 rfl (fun _ h9 => hsT _ (inX11 _ h9)) (by decide) (hsT _ tw_3_191) dX11_kin_88 rfl ?_
      refine z_iload C dX11_kin_91 rfl ?_
      obtain ⟨v93, h93, h⟩ := e_bd h
      refine z_iald C I_44 h93 dX11_kin_93 ?_
      obtain ⟨j94, h94, h⟩ := e_bd h
      have hj94 : zJ g x M 125 [(0, .ref (ga g 31)), (3, .int x3), (4, .int x4), (5, .int x5), (6, .int x6), (7, .int (v76 + v83))] [.int j94] := by
        refine z_istore [(8, .int j94), (0, .ref (ga g 31)), (3, .int x3), (4, .int x4), (5, .int x5), (6, .int x6), (7, .int (v76 + v83))] C dX11_kin_125 (by decide) rfl ?_
        refine z_iload C dX11_kin_127 rfl ?_
        obtain ⟨j129, h129, h⟩ := e_bd h
        have hj129 : zJ g x M 139 [(0, .ref (ga g 31)), (3, .int x3), (5, .int x5), (6, .int x6), (8, .int j94)] [.int j129] := by
          refine z_istore [(4, .int j129), (0, .ref (ga g 31)), (3, .int x3), (5, .int x5), (6, .int x6), (8, .int j94)] C dX11_kin_139 (by decide) rfl ?_
          refine z_iload C dX11_kin_141 rfl ?_
          obtain ⟨j143, h143, h⟩ := e_bd h
          have hj143 : zJ g x M 153 [(0, .ref (ga g 31)), (3, .int x3), (4, .int j129), (6, .int x6)] [.int j143] := by
            refine z_istore [(5, .int j143), (0, .ref (ga g 31)), (3, .int x3), (4, .int j129), (6, .int x6)] C dX11_kin_153 (by decide) rfl ?_
            refine z_iinc (v := (x6 + (1 : Int32))) [(6, .int (x6 + (1 : Int32))), (5, .int j143), (0, .ref (ga g 31)), (3, .int x3), (4, .int j129)] C dX11_kin_155 rfl rfl (by decide) rfl ?_
            refine z_goto 59 C dX11_kin_158 (by decide) ?_
            refine z_sub [2, 3, 4, 1, 0] rfl ?_
            exact ih _ _ _ _ _ h hj
          have h := h143
          refine z_if_eq 151 C dX11_kin_143 (by decide) (fun hc => ?_) (fun hc => ?_)
          · have h := e_t hc h
            refine z_iload C dX11_kin_151 rfl ?_
            obtain rfl := Option.some.inj h
            exact z_sub [1, 2, 0, 4] rfl hj143
          · have h := e_f hc h
            refine z_iload C dX11_kin_146 rfl ?_
            refine z_goto 153 C dX11_kin_148 (by decide) ?_
            obtain rfl := Option.some.inj h
            exact z_sub [1, 2, 0, 4] rfl hj143
        have h := h129
        refine z_if_eq 137 C dX11_kin_129 (by decide) (fun hc => ?_) (fun hc => ?_)
        · have h := e_t hc h
          refine z_iload C dX11_kin_137 rfl ?_
          obtain rfl := Option.some.inj h
          exact z_sub [1, 2, 4, 5, 0] rfl hj129
        · have h := e_f hc h
          refine z_iload C dX11_kin_132 rfl ?_
          refine z_goto 139 C dX11_kin_134 (by decide) ?_
          obtain rfl := Option.some.inj h
          exact z_sub [1, 2, 4, 5, 0] rfl hj129
      have h := h94
      refine z_if_lt 124 C dX11_kin_94 (by decide) (fun hc => ?_) (fun hc => ?_)
      · have h := e_t hc h
        refine z_iconst (0 : Int32) C dX11_kin_124 (by decide) ?_
        obtain rfl := Option.some.inj h
        exact z_sub [1, 2, 3, 4, 5, 0] rfl hj94
      · have h := e_f hc h
        refine z_aload_n C dX11_kin_97 rfl ?_
        refine z_get C O_31 17 rfl (fun _ h9 => hsT _ (inX11 _ h9)) (by decide) (hsT _ tw_3_192) dX11_kin_98 rfl ?_
        refine z_iload C dX11_kin_101 rfl ?_
        obtain ⟨v103, h103, h⟩ := e_bd h
        refine z_iald C I_45 h103 dX11_kin_103 ?_
        refine z_if_lt 124 C dX11_kin_104 (by decide) (fun hc => ?_) (fun hc => ?_)
        · have h := e_t hc h
          refine z_iconst (0 : Int32) C dX11_kin_124 (by decide) ?_
          obtain rfl := Option.some.inj h
          exact z_sub [1, 2, 3, 4, 5, 0] rfl hj94
        · have h := e_f hc h
          refine z_iload C dX11_kin_107 rfl ?_
          refine z_iconst (-1 : Int32) C dX11_kin_109 (by decide) ?_
          refine z_icmp_eq 120 C dX11_kin_110 (by decide) (fun hc => ?_) (fun hc => ?_)
          · have h := e_t hc h
            refine z_iconst (1 : Int32) C dX11_kin_120 (by decide) ?_
            refine z_goto 125 C dX11_kin_121 (by decide) ?_
            obtain rfl := Option.some.inj h
            exact z_sub [1, 2, 3, 4, 5, 0] rfl hj94
          · have h := e_f hc h
            refine z_iload C dX11_kin_113 rfl ?_
            refine z_iload C dX11_kin_115 rfl ?_
            refine z_icmp_gt 124 C dX11_kin_117 (by decide) (fun hc => ?_) (fun hc => ?_)
            · have h := e_t hc h
              refine z_iconst (0 : Int32) C dX11_kin_124 (by decide) ?_
              obtain rfl := Option.some.inj h
              exact z_sub [1, 2, 3, 4, 5, 0] rfl hj94
            · have h := e_f hc h
              refine z_iconst (1 : Int32) C dX11_kin_120 (by decide) ?_
              refine z_goto 125 C dX11_kin_121 (by decide) ?_
              obtain rfl := Option.some.inj h
              exact z_sub [1, 2, 3, 4, 5, 0] rfl hj94
set_option maxRecDepth 100000 in
set_option maxHeartbeats 4000000 in
theorem c_X11_kin (l : Launch) (g : Gx) {M : MM} {x1 : Int32} {x2 : Int32} {x3 : Int32} {r : Int32 × MM} (h : f_X11_kin M x1 x2 x3 = some r) : zMi l yX11_kin wX11_kin (rmm 2 46) [.ref (ga g 31), .int x1, .int x2, .int x3] g M r.1 r.2 := by
  refine zMi_of .int (by decide) rfl (Nat.le_of_ble_eq_true rfl) rfl rfl ?_
  intro x C E
  show zJ g x M 0 [(0, .ref (ga g 31)), (1, .int x1), (2, .int x2), (3, .int x3)] []
  unfold f_X11_kin at h
  refine z_aload_n C dX11_kin_0 rfl ?_
  refine z_iload_n C dX11_kin_1 rfl ?_
  obtain ⟨v2, h2, h⟩ := e_bd h
  refine z_callVi (As := [.int x1]) C (c_X11_isOne l g h2) rfl O_31 rfl (gcV hsT tw_4_6 cw_X11_isOne) rfl rfl rfl hy_X11_isOne rfl ⟨Nat.le_of_ble_eq_true rfl, Nat.le_of_ble_eq_true rfl⟩ (Nat.le_of_ble_eq_true rfl) dX11_kin_2 ?_
  refine z_if_eq 16 C dX11_kin_5 (by decide) (fun hc => ?_) (fun hc => ?_)
  · have h := e_t hc h
    refine z_ldc (v := (-1000000001 : Int32)) C (hsT _ tw_4_90) dX11_kin_16 ?_
    obtain rfl := Option.some.inj h
    exact z_iret C E dX11_kin_18
  · have h := e_f hc h
    refine z_aload_n C dX11_kin_8 rfl ?_
    refine z_iload_n C dX11_kin_9 rfl ?_
    obtain ⟨v10, h10, h⟩ := e_bd h
    refine z_callVi (As := [.int x2]) C (c_X11_isOne l g h10) rfl O_31 rfl (gcV hsT tw_4_6 cw_X11_isOne) rfl rfl rfl hy_X11_isOne rfl ⟨Nat.le_of_ble_eq_true rfl, Nat.le_of_ble_eq_true rfl⟩ (Nat.le_of_ble_eq_true rfl) dX11_kin_10 ?_
    refine z_if_ne 19 C dX11_kin_13 (by decide) (fun hc => ?_) (fun hc => ?_)
    · have h := e_f hc h
      refine z_iload_n C dX11_kin_19 rfl ?_
      refine z_i2l C dX11_kin_20 ?_
      refine z_lconst (0 : Int64) C dX11_kin_21 (by decide) ?_
      refine z_lconst (1 : Int64) C dX11_kin_22 (by decide) ?_
      obtain ⟨v23, h23, h⟩ := e_bd h
      refine z_callSi (As := [.long x3.toInt64, .long (0 : Int64), .long (1 : Int64)]) C (c_X11_in l g h23) rfl (gcS hsT tw_4_10 cw_X11_in) rfl rfl rfl hy_X11_in rfl ⟨Nat.le_of_ble_eq_true rfl, Nat.le_of_ble_eq_true rfl⟩ (Nat.le_of_ble_eq_true rfl) dX11_kin_23 ?_
      refine z_if_ne 32 C dX11_kin_26 (by decide) (fun hc => ?_) (fun hc => ?_)
      · have h := e_f hc h
        refine z_aload_n C dX11_kin_32 rfl ?_
        refine z_iload_n C dX11_kin_33 rfl ?_
        refine z_aload_n C dX11_kin_34 rfl ?_
        refine z_get C O_31 16 rfl (fun _ h9 => hsT _ (inX11 _ h9)) (by decide) (hsT _ tw_3_191) dX11_kin_35 rfl ?_
        obtain ⟨M38, h38, h⟩ := e_bd h
        refine z_callVv (As := [.int x1, .ref (ga g 44)]) C (c_X11_steps_44 l g h38) rfl O_31 rfl (gcV hsT tw_4_109 cw_X11_steps) rfl rfl rfl hy_X11_steps rfl ⟨Nat.le_of_ble_eq_true rfl, Nat.le_of_ble_eq_true rfl⟩ (Nat.le_of_ble_eq_true rfl) dX11_kin_38 ?_
        refine z_aload_n C dX11_kin_41 rfl ?_
        refine z_iload_n C dX11_kin_42 rfl ?_
        refine z_aload_n C dX11_kin_43 rfl ?_
        refine z_get C O_31 17 rfl (fun _ h9 => hsT _ (inX11 _ h9)) (by decide) (hsT _ tw_3_192) dX11_kin_44 rfl ?_
        obtain ⟨M47, h47, h⟩ := e_bd h
        refine z_callVv (As := [.int x2, .ref (ga g 45)]) C (c_X11_steps_45 l g h47) rfl O_31 rfl (gcV hsT tw_4_109 cw_X11_steps) rfl rfl rfl hy_X11_steps rfl ⟨Nat.le_of_ble_eq_true rfl, Nat.le_of_ble_eq_true rfl⟩ (Nat.le_of_ble_eq_true rfl) dX11_kin_47 ?_
        refine z_iconst (-1 : Int32) C dX11_kin_50 (by decide) ?_
        refine z_istore [(4, .int (-1 : Int32)), (0, .ref (ga g 31)), (1, .int x1), (2, .int x2), (3, .int x3)] C dX11_kin_51 (by decide) rfl ?_
        refine z_iconst (-1 : Int32) C dX11_kin_53 (by decide) ?_
        refine z_istore [(5, .int (-1 : Int32)), (4, .int (-1 : Int32)), (0, .ref (ga g 31)), (1, .int x1), (2, .int x2), (3, .int x3)] C dX11_kin_54 (by decide) rfl ?_
        refine z_iconst (0 : Int32) C dX11_kin_56 (by decide) ?_
        refine z_istore [(6, .int (0 : Int32)), (5, .int (-1 : Int32)), (4, .int (-1 : Int32)), (0, .ref (ga g 31)), (1, .int x1), (2, .int x2), (3, .int x3)] C dX11_kin_57 (by decide) rfl ?_
        obtain ⟨w59, h59, h⟩ := e_bd h
        refine z_sub [3, 6, 2, 1, 0] rfl ?_
        refine lp_X11_kin_59 C _ _ _ _ _ _ h59 ?_
        refine z_iload_n C dX11_kin_161 rfl ?_
        obtain ⟨j162, h162, h⟩ := e_bd h
        have hj162 : zJ g x M47 172 [] [.int j162] := by
          obtain rfl := Option.some.inj h
          exact z_iret C E dX11_kin_172
        have h := h162
        refine z_if_ne 170 C dX11_kin_162 (by decide) (fun hc => ?_) (fun hc => ?_)
        · have h := e_f hc h
          refine z_iload C dX11_kin_170 rfl ?_
          obtain rfl := Option.some.inj h
          exact z_sub [] rfl hj162
        · have h := e_t hc h
          refine z_iload C dX11_kin_165 rfl ?_
          refine z_goto 172 C dX11_kin_167 (by decide) ?_
          obtain rfl := Option.some.inj h
          exact z_sub [] rfl hj162
      · have h := e_t hc h
        refine z_ldc (v := (-1000000002 : Int32)) C (hsT _ tw_4_85) dX11_kin_29 ?_
        obtain rfl := Option.some.inj h
        exact z_iret C E dX11_kin_31
    · have h := e_t hc h
      refine z_ldc (v := (-1000000001 : Int32)) C (hsT _ tw_4_90) dX11_kin_16 ?_
      obtain rfl := Option.some.inj h
      exact z_iret C E dX11_kin_18
theorem hy_X11_would : yX11_would.cls = RX11 ∧ yX11_would.cls ≠ "java/lang/invoke/MethodHandle" ∧ yX11_would.cls ≠ "java/lang/invoke/VarHandle" ∧ (parseMethodDescriptor yX11_would.desc).map (fun d => d.parameters.length) = some 2 := by decide +kernel
def wX11_would : List Cond := Cond.code yX11_would cX11_would 3 (some .int) :: TB
def f_X11_would (M : MM) (x1 : Int32) (x2 : Int32) : Option (Int32 × MM) :=
  (f_X11_isOne M x1).bind fun (v2 : Int32) =>
  if v2 = 0 then
    some ((-1000000001 : Int32), M)
  else
    (f_X11_isOne M x2).bind fun (v10 : Int32) =>
    if v10 = 0 then
      some ((-1000000001 : Int32), M)
    else
      if x1 = x2 then
        some ((-1000000001 : Int32), M)
      else
        (f_X11_isMan M x1).bind fun (v26 : Int32) =>
        if v26 = 0 then
          some ((-1000000003 : Int32), M)
        else
          (f_X11_isWoman M x2).bind fun (v34 : Int32) =>
          if v34 = 0 then
            some ((-1000000003 : Int32), M)
          else
            (f_X11_lays M ).bind fun (M44 : MM) =>
            (z_ld M44 32 3243 ((29 : Int32) + x1)).bind fun (v58 : Int32) =>
            (f_X11_laysOne M44 (16 : Int32) v58 x1 x2).bind fun (M61 : MM) =>
            (z_ld M61 38 17 (16 : Int32)).bind fun (v70 : Int32) =>
            some (v70, M61)
set_option maxRecDepth 100000 in
set_option maxHeartbeats 4000000 in
theorem c_X11_would (l : Launch) (g : Gx) {M : MM} {x1 : Int32} {x2 : Int32} {r : Int32 × MM} (h : f_X11_would M x1 x2 = some r) : zMi l yX11_would wX11_would (rmm 6 136) [.ref (ga g 31), .int x1, .int x2] g M r.1 r.2 := by
  refine zMi_of .int (by decide) rfl (Nat.le_of_ble_eq_true rfl) rfl rfl ?_
  intro x C E
  show zJ g x M 0 [(0, .ref (ga g 31)), (1, .int x1), (2, .int x2)] []
  unfold f_X11_would at h
  refine z_aload_n C dX11_would_0 rfl ?_
  refine z_iload_n C dX11_would_1 rfl ?_
  obtain ⟨v2, h2, h⟩ := e_bd h
  refine z_callVi (As := [.int x1]) C (c_X11_isOne l g h2) rfl O_31 rfl (gcV hsT tw_4_6 cw_X11_isOne) rfl rfl rfl hy_X11_isOne rfl ⟨Nat.le_of_ble_eq_true rfl, Nat.le_of_ble_eq_true rfl⟩ (Nat.le_of_ble_eq_true rfl) dX11_would_2 ?_
  refine z_if_eq 21 C dX11_would_5 (by decide) (fun hc => ?_) (fun hc => ?_)
  · have h := e_t hc h
    refine z_ldc (v := (-1000000001 : Int32)) C (hsT _ tw_4_90) dX11_would_21 ?_
    obtain rfl := Option.some.inj h
    exact z_iret C E dX11_would_23
  · have h := e_f hc h
    refine z_aload_n C dX11_would_8 rfl ?_
    refine z_iload_n C dX11_would_9 rfl ?_
    obtain ⟨v10, h10, h⟩ := e_bd h
    refine z_callVi (As := [.int x2]) C (c_X11_isOne l g h10) rfl O_31 rfl (gcV hsT tw_4_6 cw_X11_isOne) rfl rfl rfl hy_X11_isOne rfl ⟨Nat.le_of_ble_eq_true rfl, Nat.le_of_ble_eq_true rfl⟩ (Nat.le_of_ble_eq_true rfl) dX11_would_10 ?_
    refine z_if_eq 21 C dX11_would_13 (by decide) (fun hc => ?_) (fun hc => ?_)
    · have h := e_t hc h
      refine z_ldc (v := (-1000000001 : Int32)) C (hsT _ tw_4_90) dX11_would_21 ?_
      obtain rfl := Option.some.inj h
      exact z_iret C E dX11_would_23
    · have h := e_f hc h
      refine z_iload_n C dX11_would_16 rfl ?_
      refine z_iload_n C dX11_would_17 rfl ?_
      refine z_icmp_ne 24 C dX11_would_18 (by decide) (fun hc => ?_) (fun hc => ?_)
      · have h := e_f hc h
        refine z_aload_n C dX11_would_24 rfl ?_
        refine z_iload_n C dX11_would_25 rfl ?_
        obtain ⟨v26, h26, h⟩ := e_bd h
        refine z_callVi (As := [.int x1]) C (c_X11_isMan l g h26) rfl O_31 rfl (gcV hsT tw_4_117 cw_X11_isMan) rfl rfl rfl hy_X11_isMan rfl ⟨Nat.le_of_ble_eq_true rfl, Nat.le_of_ble_eq_true rfl⟩ (Nat.le_of_ble_eq_true rfl) dX11_would_26 ?_
        refine z_if_eq 40 C dX11_would_29 (by decide) (fun hc => ?_) (fun hc => ?_)
        · have h := e_t hc h
          refine z_ldc (v := (-1000000003 : Int32)) C (hsT _ tw_4_121) dX11_would_40 ?_
          obtain rfl := Option.some.inj h
          exact z_iret C E dX11_would_42
        · have h := e_f hc h
          refine z_aload_n C dX11_would_32 rfl ?_
          refine z_iload_n C dX11_would_33 rfl ?_
          obtain ⟨v34, h34, h⟩ := e_bd h
          refine z_callVi (As := [.int x2]) C (c_X11_isWoman l g h34) rfl O_31 rfl (gcV hsT tw_4_2 cw_X11_isWoman) rfl rfl rfl hy_X11_isWoman rfl ⟨Nat.le_of_ble_eq_true rfl, Nat.le_of_ble_eq_true rfl⟩ (Nat.le_of_ble_eq_true rfl) dX11_would_34 ?_
          refine z_if_ne 43 C dX11_would_37 (by decide) (fun hc => ?_) (fun hc => ?_)
          · have h := e_f hc h
            refine z_aload_n C dX11_would_43 rfl ?_
            obtain ⟨M44, h44, h⟩ := e_bd h
            refine z_callVv (As := []) C (c_X11_lays l g h44) rfl O_31 rfl (gcV hsT tw_4_17 cw_X11_lays) rfl rfl rfl hy_X11_lays rfl ⟨Nat.le_of_ble_eq_true rfl, Nat.le_of_ble_eq_true rfl⟩ (Nat.le_of_ble_eq_true rfl) dX11_would_44 ?_
            refine z_aload_n C dX11_would_47 rfl ?_
            refine z_bipush (16 : Int32) C dX11_would_48 (by decide) ?_
            refine z_aload_n C dX11_would_50 rfl ?_
            refine z_get C O_31 0 rfl (fun _ h9 => hsT _ (inX11 _ h9)) (by decide) (hsT _ tw_3_175) dX11_would_51 rfl ?_
            refine z_bipush (29 : Int32) C dX11_would_54 (by decide) ?_
            refine z_iload_n C dX11_would_56 rfl ?_
            refine z_iadd C dX11_would_57 ?_
            obtain ⟨v58, h58, h⟩ := e_bd h
            refine z_iald C I_32 h58 dX11_would_58 ?_
            refine z_iload_n C dX11_would_59 rfl ?_
            refine z_iload_n C dX11_would_60 rfl ?_
            obtain ⟨M61, h61, h⟩ := e_bd h
            refine z_callVv (As := [.int (16 : Int32), .int v58, .int x1, .int x2]) C (c_X11_laysOne l g h61) rfl O_31 rfl (gcV hsT tw_4_21 cw_X11_laysOne) rfl rfl rfl hy_X11_laysOne rfl ⟨Nat.le_of_ble_eq_true rfl, Nat.le_of_ble_eq_true rfl⟩ (Nat.le_of_ble_eq_true rfl) dX11_would_61 ?_
            refine z_aload_n C dX11_would_64 rfl ?_
            refine z_get C O_31 9 rfl (fun _ h9 => hsT _ (inX11 _ h9)) (by decide) (hsT _ tw_3_184) dX11_would_65 rfl ?_
            refine z_bipush (16 : Int32) C dX11_would_68 (by decide) ?_
            obtain ⟨v70, h70, h⟩ := e_bd h
            refine z_iald C I_38 h70 dX11_would_70 ?_
            obtain rfl := Option.some.inj h
            exact z_iret C E dX11_would_71
          · have h := e_t hc h
            refine z_ldc (v := (-1000000003 : Int32)) C (hsT _ tw_4_121) dX11_would_40 ?_
            obtain rfl := Option.some.inj h
            exact z_iret C E dX11_would_42
      · have h := e_t hc h
        refine z_ldc (v := (-1000000001 : Int32)) C (hsT _ tw_4_90) dX11_would_21 ?_
        obtain rfl := Option.some.inj h
        exact z_iret C E dX11_would_23
theorem hy_X11_dated : yX11_dated.cls = RX11 ∧ yX11_dated.cls ≠ "java/lang/invoke/MethodHandle" ∧ yX11_dated.cls ≠ "java/lang/invoke/VarHandle" ∧ (parseMethodDescriptor yX11_dated.desc).map (fun d => d.parameters.length) = some 2 := by decide +kernel
def wX11_dated : List Cond := Cond.code yX11_dated cX11_dated 6 (some .int) :: TB
def f_X11_dated_L39 : Nat → MM → Int32 → Int32 → Int32 → Int32 → Int32 → Option (Int32)
  | 0, _, _, _, _, _, _ => none
  | n + 1, M, x1, x2, x3, x4, x5 =>
    (z_ld M 32 3243 (0 : Int32)).bind fun (v46 : Int32) =>
    if v46 ≤ x5 then
      some x4
    else
      if x3 = 0 then
        some x4
      else
        (z_ld M 41 32 ((16 : Int32) + x5)).bind fun (v65 : Int32) =>
        (if x2 < v65 then
          some (0 : Int32)
        else
          (z_ld M 42 32 ((16 : Int32) + x5)).bind fun (v79 : Int32) =>
          if v79 < x1 then
            some (0 : Int32)
          else
            some ((1 : Int32) <<< (x5 &&& 31))
        ).bind fun (j67 : Int32) =>
          f_X11_dated_L39 n M x1 x2 x3 (x4 ||| j67) (x5 + (1 : Int32))
def f_X11_dated (M : MM) (x1 : Int32) (x2 : Int32) : Option (Int32 × MM) :=
  (f_X11_in M x1.toInt64 (0 : Int64) (999 : Int64)).bind fun (v6 : Int32) =>
  if v6 = 0 then
    some ((-1000000002 : Int32), M)
  else
    (f_X11_in M x2.toInt64 x1.toInt64 (999 : Int64)).bind fun (v19 : Int32) =>
    if v19 = 0 then
      some ((-1000000002 : Int32), M)
    else
      (f_X11_narrows M ).bind fun (s29 : Int32 × MM) =>
      (f_X11_dated_L39 FU s29.2 x1 x2 s29.1 (0 : Int32) (0 : Int32)).bind fun (w39 : Int32) =>
      some (w39, s29.2)
set_option maxRecDepth 100000 in
set_option maxHeartbeats 4000000 in
theorem lp_X11_dated_39 {l : Launch} {g : Gx} {x : Cx} (C : zC g x l RX11 cX11_dated wX11_dated (rmm 3 68) 6) {r : Int32} : ∀ (n : Nat) (M : MM) (x1 x2 x3 x4 x5 : Int32) , f_X11_dated_L39 n M x1 x2 x3 x4 x5 = some r → zJ g x M 101 [(4, .int r)] [] → zJ g x M 39 [(0, .ref (ga g 31)), (1, .int x1), (2, .int x2), (3, .int x3), (4, .int x4), (5, .int x5)] [] := by
  intro n
  induction n with
  | zero =>
    intro M x1 x2 x3 x4 x5 h hj
    exact absurd h (by simp [f_X11_dated_L39])
  | succ n ih =>
    intro M x1 x2 x3 x4 x5 h hj
    rw [f_X11_dated_L39] at h
    refine z_iload C dX11_dated_39 rfl ?_
    refine z_aload_n C dX11_dated_41 rfl ?_
    refine z_get C O_31 0 rfl (fun _ h9 => hsT _ (inX11 _ h9)) (by decide) (hsT _ tw_3_175) dX11_dated_42 rfl ?_
    refine z_iconst (0 : Int32) C dX11_dated_45 (by decide) ?_
    obtain ⟨v46, h46, h⟩ := e_bd h
    refine z_iald C I_32 h46 dX11_dated_46 ?_
    refine z_icmp_ge 101 C dX11_dated_47 (by decide) (fun hc => ?_) (fun hc => ?_)
    · have h := e_t hc h
      obtain rfl := Option.some.inj h
      exact z_sub [4] rfl hj
    · have h := e_f hc h
      refine z_iload_n C dX11_dated_50 rfl ?_
      refine z_if_eq 101 C dX11_dated_51 (by decide) (fun hc => ?_) (fun hc => ?_)
      · have h := e_t hc h
        obtain rfl := Option.some.inj h
        exact z_sub [4] rfl hj
      · have h := e_f hc h
        refine z_iload C dX11_dated_54 rfl ?_
        refine z_aload_n C dX11_dated_56 rfl ?_
        refine z_get C O_31 12 rfl (fun _ h9 => hsT _ (inX11 _ h9)) (by decide) (hsT _ tw_3_187) dX11_dated_57 rfl ?_
        refine z_bipush (16 : Int32) C dX11_dated_60 (by decide) ?_
        refine z_iload C dX11_dated_62 rfl ?_
        refine z_iadd C dX11_dated_64 ?_
        obtain ⟨v65, h65, h⟩ := e_bd h
        refine z_iald C I_41 h65 dX11_dated_65 ?_
        refine z_iload_n C dX11_dated_66 rfl ?_
        obtain ⟨j67, h67, h⟩ := e_bd h
        have hj67 : zJ g x M 92 [(0, .ref (ga g 31)), (1, .int x1), (2, .int x2), (3, .int x3), (5, .int x5)] [.int j67, .int x4] := by
          refine z_ior C dX11_dated_92 ?_
          refine z_istore [(4, .int (x4 ||| j67)), (0, .ref (ga g 31)), (1, .int x1), (2, .int x2), (3, .int x3), (5, .int x5)] C dX11_dated_93 (by decide) rfl ?_
          refine z_iinc (v := (x5 + (1 : Int32))) [(5, .int (x5 + (1 : Int32))), (4, .int (x4 ||| j67)), (0, .ref (ga g 31)), (1, .int x1), (2, .int x2), (3, .int x3)] C dX11_dated_95 rfl rfl (by decide) rfl ?_
          refine z_goto 39 C dX11_dated_98 (by decide) ?_
          refine z_sub [2, 3, 4, 5, 1, 0] rfl ?_
          exact ih _ _ _ _ _ _ h hj
        have h := h67
        refine z_icmp_gt 91 C dX11_dated_67 (by decide) (fun hc => ?_) (fun hc => ?_)
        · have h := e_t hc h
          refine z_iconst (0 : Int32) C dX11_dated_91 (by decide) ?_
          obtain rfl := Option.some.inj h
          exact z_sub [0, 1, 2, 3, 5] rfl hj67
        · have h := e_f hc h
          refine z_aload_n C dX11_dated_70 rfl ?_
          refine z_get C O_31 13 rfl (fun _ h9 => hsT _ (inX11 _ h9)) (by decide) (hsT _ tw_3_188) dX11_dated_71 rfl ?_
          refine z_bipush (16 : Int32) C dX11_dated_74 (by decide) ?_
          refine z_iload C dX11_dated_76 rfl ?_
          refine z_iadd C dX11_dated_78 ?_
          obtain ⟨v79, h79, h⟩ := e_bd h
          refine z_iald C I_42 h79 dX11_dated_79 ?_
          refine z_iload_n C dX11_dated_80 rfl ?_
          refine z_icmp_lt 91 C dX11_dated_81 (by decide) (fun hc => ?_) (fun hc => ?_)
          · have h := e_t hc h
            refine z_iconst (0 : Int32) C dX11_dated_91 (by decide) ?_
            obtain rfl := Option.some.inj h
            exact z_sub [0, 1, 2, 3, 5] rfl hj67
          · have h := e_f hc h
            refine z_iconst (1 : Int32) C dX11_dated_84 (by decide) ?_
            refine z_iload C dX11_dated_85 rfl ?_
            refine z_ishl C dX11_dated_87 ?_
            refine z_goto 92 C dX11_dated_88 (by decide) ?_
            obtain rfl := Option.some.inj h
            exact z_sub [0, 1, 2, 3, 5] rfl hj67
set_option maxRecDepth 100000 in
set_option maxHeartbeats 4000000 in
theorem c_X11_dated (l : Launch) (g : Gx) {M : MM} {x1 : Int32} {x2 : Int32} {r : Int32 × MM} (h : f_X11_dated M x1 x2 = some r) : zMi l yX11_dated wX11_dated (rmm 3 68) [.ref (ga g 31), .int x1, .int x2] g M r.1 r.2 := by
  refine zMi_of .int (by decide) rfl (Nat.le_of_ble_eq_true rfl) rfl rfl ?_
  intro x C E
  show zJ g x M 0 [(0, .ref (ga g 31)), (1, .int x1), (2, .int x2)] []
  unfold f_X11_dated at h
  refine z_iload_n C dX11_dated_0 rfl ?_
  refine z_i2l C dX11_dated_1 ?_
  refine z_lconst (0 : Int64) C dX11_dated_2 (by decide) ?_
  refine z_ldc2 (v := (999 : Int64)) C (hsT _ tw_4_126) dX11_dated_3 ?_
  obtain ⟨v6, h6, h⟩ := e_bd h
  refine z_callSi (As := [.long x1.toInt64, .long (0 : Int64), .long (999 : Int64)]) C (c_X11_in l g h6) rfl (gcS hsT tw_4_10 cw_X11_in) rfl rfl rfl hy_X11_in rfl ⟨Nat.le_of_ble_eq_true rfl, Nat.le_of_ble_eq_true rfl⟩ (Nat.le_of_ble_eq_true rfl) dX11_dated_6 ?_
  refine z_if_eq 25 C dX11_dated_9 (by decide) (fun hc => ?_) (fun hc => ?_)
  · have h := e_t hc h
    refine z_ldc (v := (-1000000002 : Int32)) C (hsT _ tw_4_85) dX11_dated_25 ?_
    obtain rfl := Option.some.inj h
    exact z_iret C E dX11_dated_27
  · have h := e_f hc h
    refine z_iload_n C dX11_dated_12 rfl ?_
    refine z_i2l C dX11_dated_13 ?_
    refine z_iload_n C dX11_dated_14 rfl ?_
    refine z_i2l C dX11_dated_15 ?_
    refine z_ldc2 (v := (999 : Int64)) C (hsT _ tw_4_126) dX11_dated_16 ?_
    obtain ⟨v19, h19, h⟩ := e_bd h
    refine z_callSi (As := [.long x2.toInt64, .long x1.toInt64, .long (999 : Int64)]) C (c_X11_in l g h19) rfl (gcS hsT tw_4_10 cw_X11_in) rfl rfl rfl hy_X11_in rfl ⟨Nat.le_of_ble_eq_true rfl, Nat.le_of_ble_eq_true rfl⟩ (Nat.le_of_ble_eq_true rfl) dX11_dated_19 ?_
    refine z_if_ne 28 C dX11_dated_22 (by decide) (fun hc => ?_) (fun hc => ?_)
    · have h := e_f hc h
      refine z_aload_n C dX11_dated_28 rfl ?_
      obtain ⟨s29, h29, h⟩ := e_bd h
      refine z_callVi (As := []) C (c_X11_narrows l g h29) rfl O_31 rfl (gcV hsT tw_4_41 cw_X11_narrows) rfl rfl rfl hy_X11_narrows rfl ⟨Nat.le_of_ble_eq_true rfl, Nat.le_of_ble_eq_true rfl⟩ (Nat.le_of_ble_eq_true rfl) dX11_dated_29 ?_
      refine z_istore_n [(3, .int s29.1), (0, .ref (ga g 31)), (1, .int x1), (2, .int x2)] C dX11_dated_32 (by decide) rfl ?_
      refine z_iconst (0 : Int32) C dX11_dated_33 (by decide) ?_
      refine z_istore [(4, .int (0 : Int32)), (3, .int s29.1), (0, .ref (ga g 31)), (1, .int x1), (2, .int x2)] C dX11_dated_34 (by decide) rfl ?_
      refine z_iconst (0 : Int32) C dX11_dated_36 (by decide) ?_
      refine z_istore [(5, .int (0 : Int32)), (4, .int (0 : Int32)), (3, .int s29.1), (0, .ref (ga g 31)), (1, .int x1), (2, .int x2)] C dX11_dated_37 (by decide) rfl ?_
      obtain ⟨w39, h39, h⟩ := e_bd h
      refine z_sub [3, 4, 5, 2, 1, 0] rfl ?_
      refine lp_X11_dated_39 C _ _ _ _ _ _ _ h39 ?_
      refine z_iload C dX11_dated_101 rfl ?_
      obtain rfl := Option.some.inj h
      exact z_iret C E dX11_dated_103
    · have h := e_t hc h
      refine z_ldc (v := (-1000000002 : Int32)) C (hsT _ tw_4_85) dX11_dated_25 ?_
      obtain rfl := Option.some.inj h
      exact z_iret C E dX11_dated_27
theorem hy_X11_signAt : yX11_signAt.cls = RX11 ∧ yX11_signAt.cls ≠ "java/lang/invoke/MethodHandle" ∧ yX11_signAt.cls ≠ "java/lang/invoke/VarHandle" ∧ (parseMethodDescriptor yX11_signAt.desc).map (fun d => d.parameters.length) = some 1 := by decide +kernel
def wX11_signAt : List Cond := Cond.code yX11_signAt cX11_signAt 2 (some .int) :: TB
def f_X11_signAt (M : MM) (x1 : Int32) : Option Int32 :=
  (z_ld M 32 3243 (2 : Int32)).bind fun (v8 : Int32) =>
  (f_X11_in M x1.toInt64 (0 : Int64) (v8 - (1 : Int32)).toInt64).bind fun (v12 : Int32) =>
  (if v12 = 0 then
    some (-1 : Int32)
  else
    (z_ld M 32 3243 ((3 : Int32) + x1)).bind fun (v25 : Int32) =>
    some v25
  ).bind fun (j15 : Int32) =>
    some j15
set_option maxRecDepth 100000 in
set_option maxHeartbeats 4000000 in
theorem c_X11_signAt (l : Launch) (g : Gx) {M : MM} {x1 : Int32} {r : Int32} (h : f_X11_signAt M x1 = some r) : zMi l yX11_signAt wX11_signAt (rmm 1 25) [.ref (ga g 31), .int x1] g M r M := by
  refine zMi_of .int (by decide) rfl (Nat.le_of_ble_eq_true rfl) rfl rfl ?_
  intro x C E
  show zJ g x M 0 [(0, .ref (ga g 31)), (1, .int x1)] []
  unfold f_X11_signAt at h
  refine z_iload_n C dX11_signAt_0 rfl ?_
  refine z_i2l C dX11_signAt_1 ?_
  refine z_lconst (0 : Int64) C dX11_signAt_2 (by decide) ?_
  refine z_aload_n C dX11_signAt_3 rfl ?_
  refine z_get C O_31 0 rfl (fun _ h9 => hsT _ (inX11 _ h9)) (by decide) (hsT _ tw_3_175) dX11_signAt_4 rfl ?_
  refine z_iconst (2 : Int32) C dX11_signAt_7 (by decide) ?_
  obtain ⟨v8, h8, h⟩ := e_bd h
  refine z_iald C I_32 h8 dX11_signAt_8 ?_
  refine z_iconst (1 : Int32) C dX11_signAt_9 (by decide) ?_
  refine z_isub C dX11_signAt_10 ?_
  refine z_i2l C dX11_signAt_11 ?_
  obtain ⟨v12, h12, h⟩ := e_bd h
  refine z_callSi (As := [.long x1.toInt64, .long (0 : Int64), .long (v8 - (1 : Int32)).toInt64]) C (c_X11_in l g h12) rfl (gcS hsT tw_4_10 cw_X11_in) rfl rfl rfl hy_X11_in rfl ⟨Nat.le_of_ble_eq_true rfl, Nat.le_of_ble_eq_true rfl⟩ (Nat.le_of_ble_eq_true rfl) dX11_signAt_12 ?_
  obtain ⟨j15, h15, h⟩ := e_bd h
  have hj15 : zJ g x M 30 [] [.int j15] := by
    obtain rfl := Option.some.inj h
    exact z_iret C E dX11_signAt_30
  have h := h15
  refine z_if_eq 29 C dX11_signAt_15 (by decide) (fun hc => ?_) (fun hc => ?_)
  · have h := e_t hc h
    refine z_iconst (-1 : Int32) C dX11_signAt_29 (by decide) ?_
    obtain rfl := Option.some.inj h
    exact z_sub [] rfl hj15
  · have h := e_f hc h
    refine z_aload_n C dX11_signAt_18 rfl ?_
    refine z_get C O_31 0 rfl (fun _ h9 => hsT _ (inX11 _ h9)) (by decide) (hsT _ tw_3_175) dX11_signAt_19 rfl ?_
    refine z_iconst (3 : Int32) C dX11_signAt_22 (by decide) ?_
    refine z_iload_n C dX11_signAt_23 rfl ?_
    refine z_iadd C dX11_signAt_24 ?_
    obtain ⟨v25, h25, h⟩ := e_bd h
    refine z_iald C I_32 h25 dX11_signAt_25 ?_
    refine z_goto 30 C dX11_signAt_26 (by decide) ?_
    obtain rfl := Option.some.inj h
    exact z_sub [] rfl hj15
theorem hy_X11_comes : yX11_comes.cls = RX11 ∧ yX11_comes.cls ≠ "java/lang/invoke/MethodHandle" ∧ yX11_comes.cls ≠ "java/lang/invoke/VarHandle" ∧ (parseMethodDescriptor yX11_comes.desc).map (fun d => d.parameters.length) = some 4 := by decide +kernel
def wX11_comes : List Cond := Cond.code yX11_comes cX11_comes 6 none :: TB
def f_X11_comes (M : MM) (x1 : Int32) (x2 : Int32) (x3 : Int32) (x4 : Int32) : Option MM :=
  (z_ld M 32 3243 (0 : Int32)).bind fun (v5 : Int32) =>
  (z_sto M 32 3243 ((13 : Int32) + v5) x1).bind fun (M18 : MM) =>
  (if x3 = (-1 : Int32) then
    some x2
  else
    (z_ld M18 32 3243 ((29 : Int32) + x3)).bind fun (v45 : Int32) =>
    some v45
  ).bind fun (j30 : Int32) =>
    (z_sto M18 32 3243 ((29 : Int32) + v5) j30).bind fun (M46 : MM) =>
    (z_sto M46 32 3243 ((45 : Int32) + v5) x3).bind fun (M57 : MM) =>
    (z_sto M57 32 3243 ((61 : Int32) + v5) x4).bind fun (M69 : MM) =>
    (z_sto M69 32 3243 ((77 : Int32) + ((2 : Int32) * v5)) (0 : Int32)).bind fun (M82 : MM) =>
    (z_sto M82 32 3243 (((77 : Int32) + ((2 : Int32) * v5)) + (1 : Int32)) (999 : Int32)).bind fun (M99 : MM) =>
    (z_sto M99 32 3243 ((109 : Int32) + ((2 : Int32) * v5)) (0 : Int32)).bind fun (M112 : MM) =>
    (z_sto M112 32 3243 (((109 : Int32) + ((2 : Int32) * v5)) + (1 : Int32)) (999 : Int32)).bind fun (M129 : MM) =>
    (z_ld M129 32 3243 (0 : Int32)).bind fun (v136 : Int32) =>
    (z_sto M129 32 3243 (0 : Int32) (v136 + (1 : Int32))).bind fun (M139 : MM) =>
    some M139
set_option maxRecDepth 100000 in
set_option maxHeartbeats 4000000 in
theorem c_X11_comes (l : Launch) (g : Gx) {M : MM} {x1 : Int32} {x2 : Int32} {x3 : Int32} {x4 : Int32} {r : MM} (h : f_X11_comes M x1 x2 x3 x4 = some r) : zMv l yX11_comes wX11_comes (rmm 0 0) [.ref (ga g 31), .int x1, .int x2, .int x3, .int x4] g M r := by
  refine zMv_of (by decide) rfl (Nat.le_of_ble_eq_true rfl) rfl rfl ?_
  intro x C E
  show zJ g x M 0 [(0, .ref (ga g 31)), (1, .int x1), (2, .int x2), (3, .int x3), (4, .int x4)] []
  unfold f_X11_comes at h
  refine z_aload_n C dX11_comes_0 rfl ?_
  refine z_get C O_31 0 rfl (fun _ h9 => hsT _ (inX11 _ h9)) (by decide) (hsT _ tw_3_175) dX11_comes_1 rfl ?_
  refine z_iconst (0 : Int32) C dX11_comes_4 (by decide) ?_
  obtain ⟨v5, h5, h⟩ := e_bd h
  refine z_iald C I_32 h5 dX11_comes_5 ?_
  refine z_istore [(5, .int v5), (0, .ref (ga g 31)), (1, .int x1), (2, .int x2), (3, .int x3), (4, .int x4)] C dX11_comes_6 (by decide) rfl ?_
  refine z_aload_n C dX11_comes_8 rfl ?_
  refine z_get C O_31 0 rfl (fun _ h9 => hsT _ (inX11 _ h9)) (by decide) (hsT _ tw_3_175) dX11_comes_9 rfl ?_
  refine z_bipush (13 : Int32) C dX11_comes_12 (by decide) ?_
  refine z_iload C dX11_comes_14 rfl ?_
  refine z_iadd C dX11_comes_16 ?_
  refine z_iload_n C dX11_comes_17 rfl ?_
  obtain ⟨M18, h18, h⟩ := e_bd h
  refine z_iast C I_32 h18 dX11_comes_18 ?_
  refine z_aload_n C dX11_comes_19 rfl ?_
  refine z_get C O_31 0 rfl (fun _ h9 => hsT _ (inX11 _ h9)) (by decide) (hsT _ tw_3_175) dX11_comes_20 rfl ?_
  refine z_bipush (29 : Int32) C dX11_comes_23 (by decide) ?_
  refine z_iload C dX11_comes_25 rfl ?_
  refine z_iadd C dX11_comes_27 ?_
  refine z_iload_n C dX11_comes_28 rfl ?_
  refine z_iconst (-1 : Int32) C dX11_comes_29 (by decide) ?_
  obtain ⟨j30, h30, h⟩ := e_bd h
  have hj30 : zJ g x M18 46 [(0, .ref (ga g 31)), (3, .int x3), (4, .int x4), (5, .int v5)] [.int j30, .int ((29 : Int32) + v5), .ref (ga g 32)] := by
    obtain ⟨M46, h46, h⟩ := e_bd h
    refine z_iast C I_32 h46 dX11_comes_46 ?_
    refine z_aload_n C dX11_comes_47 rfl ?_
    refine z_get C O_31 0 rfl (fun _ h9 => hsT _ (inX11 _ h9)) (by decide) (hsT _ tw_3_175) dX11_comes_48 rfl ?_
    refine z_bipush (45 : Int32) C dX11_comes_51 (by decide) ?_
    refine z_iload C dX11_comes_53 rfl ?_
    refine z_iadd C dX11_comes_55 ?_
    refine z_iload_n C dX11_comes_56 rfl ?_
    obtain ⟨M57, h57, h⟩ := e_bd h
    refine z_iast C I_32 h57 dX11_comes_57 ?_
    refine z_aload_n C dX11_comes_58 rfl ?_
    refine z_get C O_31 0 rfl (fun _ h9 => hsT _ (inX11 _ h9)) (by decide) (hsT _ tw_3_175) dX11_comes_59 rfl ?_
    refine z_bipush (61 : Int32) C dX11_comes_62 (by decide) ?_
    refine z_iload C dX11_comes_64 rfl ?_
    refine z_iadd C dX11_comes_66 ?_
    refine z_iload C dX11_comes_67 rfl ?_
    obtain ⟨M69, h69, h⟩ := e_bd h
    refine z_iast C I_32 h69 dX11_comes_69 ?_
    refine z_aload_n C dX11_comes_70 rfl ?_
    refine z_get C O_31 0 rfl (fun _ h9 => hsT _ (inX11 _ h9)) (by decide) (hsT _ tw_3_175) dX11_comes_71 rfl ?_
    refine z_bipush (77 : Int32) C dX11_comes_74 (by decide) ?_
    refine z_iconst (2 : Int32) C dX11_comes_76 (by decide) ?_
    refine z_iload C dX11_comes_77 rfl ?_
    refine z_imul C dX11_comes_79 ?_
    refine z_iadd C dX11_comes_80 ?_
    refine z_iconst (0 : Int32) C dX11_comes_81 (by decide) ?_
    obtain ⟨M82, h82, h⟩ := e_bd h
    refine z_iast C I_32 h82 dX11_comes_82 ?_
    refine z_aload_n C dX11_comes_83 rfl ?_
    refine z_get C O_31 0 rfl (fun _ h9 => hsT _ (inX11 _ h9)) (by decide) (hsT _ tw_3_175) dX11_comes_84 rfl ?_
    refine z_bipush (77 : Int32) C dX11_comes_87 (by decide) ?_
    refine z_iconst (2 : Int32) C dX11_comes_89 (by decide) ?_
    refine z_iload C dX11_comes_90 rfl ?_
    refine z_imul C dX11_comes_92 ?_
    refine z_iadd C dX11_comes_93 ?_
    refine z_iconst (1 : Int32) C dX11_comes_94 (by decide) ?_
    refine z_iadd C dX11_comes_95 ?_
    refine z_sipush (999 : Int32) C dX11_comes_96 (by decide) ?_
    obtain ⟨M99, h99, h⟩ := e_bd h
    refine z_iast C I_32 h99 dX11_comes_99 ?_
    refine z_aload_n C dX11_comes_100 rfl ?_
    refine z_get C O_31 0 rfl (fun _ h9 => hsT _ (inX11 _ h9)) (by decide) (hsT _ tw_3_175) dX11_comes_101 rfl ?_
    refine z_bipush (109 : Int32) C dX11_comes_104 (by decide) ?_
    refine z_iconst (2 : Int32) C dX11_comes_106 (by decide) ?_
    refine z_iload C dX11_comes_107 rfl ?_
    refine z_imul C dX11_comes_109 ?_
    refine z_iadd C dX11_comes_110 ?_
    refine z_iconst (0 : Int32) C dX11_comes_111 (by decide) ?_
    obtain ⟨M112, h112, h⟩ := e_bd h
    refine z_iast C I_32 h112 dX11_comes_112 ?_
    refine z_aload_n C dX11_comes_113 rfl ?_
    refine z_get C O_31 0 rfl (fun _ h9 => hsT _ (inX11 _ h9)) (by decide) (hsT _ tw_3_175) dX11_comes_114 rfl ?_
    refine z_bipush (109 : Int32) C dX11_comes_117 (by decide) ?_
    refine z_iconst (2 : Int32) C dX11_comes_119 (by decide) ?_
    refine z_iload C dX11_comes_120 rfl ?_
    refine z_imul C dX11_comes_122 ?_
    refine z_iadd C dX11_comes_123 ?_
    refine z_iconst (1 : Int32) C dX11_comes_124 (by decide) ?_
    refine z_iadd C dX11_comes_125 ?_
    refine z_sipush (999 : Int32) C dX11_comes_126 (by decide) ?_
    obtain ⟨M129, h129, h⟩ := e_bd h
    refine z_iast C I_32 h129 dX11_comes_129 ?_
    refine z_aload_n C dX11_comes_130 rfl ?_
    refine z_get C O_31 0 rfl (fun _ h9 => hsT _ (inX11 _ h9)) (by decide) (hsT _ tw_3_175) dX11_comes_131 rfl ?_
    refine z_iconst (0 : Int32) C dX11_comes_134 (by decide) ?_
    refine z_dup2 C dX11_comes_135 rfl rfl ?_
    obtain ⟨v136, h136, h⟩ := e_bd h
    refine z_iald C I_32 h136 dX11_comes_136 ?_
    refine z_iconst (1 : Int32) C dX11_comes_137 (by decide) ?_
    refine z_iadd C dX11_comes_138 ?_
    obtain ⟨M139, h139, h⟩ := e_bd h
    refine z_iast C I_32 h139 dX11_comes_139 ?_
    obtain rfl := Option.some.inj h
    exact z_vret C E dX11_comes_140
  have h := h30
  refine z_icmp_ne 37 C dX11_comes_30 (by decide) (fun hc => ?_) (fun hc => ?_)
  · have h := e_f hc h
    refine z_aload_n C dX11_comes_37 rfl ?_
    refine z_get C O_31 0 rfl (fun _ h9 => hsT _ (inX11 _ h9)) (by decide) (hsT _ tw_3_175) dX11_comes_38 rfl ?_
    refine z_bipush (29 : Int32) C dX11_comes_41 (by decide) ?_
    refine z_iload_n C dX11_comes_43 rfl ?_
    refine z_iadd C dX11_comes_44 ?_
    obtain ⟨v45, h45, h⟩ := e_bd h
    refine z_iald C I_32 h45 dX11_comes_45 ?_
    obtain rfl := Option.some.inj h
    exact z_sub [1, 4, 5, 0] rfl hj30
  · have h := e_t hc h
    refine z_iload_n C dX11_comes_33 rfl ?_
    refine z_goto 46 C dX11_comes_34 (by decide) ?_
    obtain rfl := Option.some.inj h
    exact z_sub [1, 4, 5, 0] rfl hj30
theorem hy_X11_put : yX11_put.cls = RX11 ∧ yX11_put.cls ≠ "java/lang/invoke/MethodHandle" ∧ yX11_put.cls ≠ "java/lang/invoke/VarHandle" ∧ (parseMethodDescriptor yX11_put.desc).map (fun d => d.parameters.length) = some 4 := by decide +kernel
def wX11_put : List Cond := Cond.code yX11_put cX11_put 5 (some .int) :: TB
def f_X11_put_T87 (M : MM) (x1 : Int32) (x2 : Int32) (x3 : Int32) (x4 : Int32) : Option (Int32 × MM) :=
  (z_ld M 32 3243 (0 : Int32)).bind fun (v92 : Int32) =>
  if v92 = (16 : Int32) then
    some ((-1000000004 : Int32), M)
  else
    (f_X11_minds M ).bind fun (M102 : MM) =>
    (f_X11_comes M102 x1 x2 x3 x4).bind fun (M111 : MM) =>
    (z_ld M111 32 3243 (0 : Int32)).bind fun (v119 : Int32) =>
    some ((v119 - (1 : Int32)), M111)
def f_X11_put_T69 (M : MM) (x1 : Int32) (x2 : Int32) (x3 : Int32) (x4 : Int32) : Option (Int32 × MM) :=
  if x4 = (-1 : Int32) then
    f_X11_put_T87 M x1 x2 x3 x4
  else
    (f_X11_isWoman M x4).bind fun (v78 : Int32) =>
    if v78 = 0 then
      some ((-1000000003 : Int32), M)
    else
      f_X11_put_T87 M x1 x2 x3 x4
def f_X11_put_T31 (M : MM) (x1 : Int32) (x2 : Int32) (x3 : Int32) (x4 : Int32) : Option (Int32 × MM) :=
  (f_X11_in M x1.toInt64 (0 : Int64) (1 : Int64)).bind fun (v35 : Int32) =>
  if v35 = 0 then
    some ((-1000000002 : Int32), M)
  else
    (f_X11_in M x2.toInt64 (0 : Int64) (9 : Int64)).bind fun (v47 : Int32) =>
    if v47 = 0 then
      some ((-1000000002 : Int32), M)
    else
      if x3 = (-1 : Int32) then
        f_X11_put_T69 M x1 x2 x3 x4
      else
        (f_X11_isMan M x3).bind fun (v63 : Int32) =>
        if v63 = 0 then
          some ((-1000000003 : Int32), M)
        else
          f_X11_put_T69 M x1 x2 x3 x4
def f_X11_put_T13 (M : MM) (x1 : Int32) (x2 : Int32) (x3 : Int32) (x4 : Int32) : Option (Int32 × MM) :=
  if x4 = (-1 : Int32) then
    f_X11_put_T31 M x1 x2 x3 x4
  else
    (f_X11_isOne M x4).bind fun (v22 : Int32) =>
    if v22 = 0 then
      some ((-1000000001 : Int32), M)
    else
      f_X11_put_T31 M x1 x2 x3 x4
def f_X11_put (M : MM) (x1 : Int32) (x2 : Int32) (x3 : Int32) (x4 : Int32) : Option (Int32 × MM) :=
  if x3 = (-1 : Int32) then
    f_X11_put_T13 M x1 x2 x3 x4
  else
    (f_X11_isOne M x3).bind fun (v7 : Int32) =>
    if v7 = 0 then
      some ((-1000000001 : Int32), M)
    else
      f_X11_put_T13 M x1 x2 x3 x4
set_option maxRecDepth 100000 in
set_option maxHeartbeats 4000000 in
theorem tl_X11_put_87 {l : Launch} {g : Gx} {x : Cx} (C : zC g x l RX11 cX11_put wX11_put (rmm 3 67) 5) {M : MM} {x1 : Int32} {x2 : Int32} {x3 : Int32} {x4 : Int32} {r : (Int32 × MM)} (h : f_X11_put_T87 M x1 x2 x3 x4 = some r) (E : zRi g x .int r.1 r.2) : zJ g x M 87 [(0, .ref (ga g 31)), (1, .int x1), (2, .int x2), (3, .int x3), (4, .int x4)] [] := by
  unfold f_X11_put_T87 at h
  refine z_aload_n C dX11_put_87 rfl ?_
  refine z_get C O_31 0 rfl (fun _ h9 => hsT _ (inX11 _ h9)) (by decide) (hsT _ tw_3_175) dX11_put_88 rfl ?_
  refine z_iconst (0 : Int32) C dX11_put_91 (by decide) ?_
  obtain ⟨v92, h92, h⟩ := e_bd h
  refine z_iald C I_32 h92 dX11_put_92 ?_
  refine z_bipush (16 : Int32) C dX11_put_93 (by decide) ?_
  refine z_icmp_ne 101 C dX11_put_95 (by decide) (fun hc => ?_) (fun hc => ?_)
  · have h := e_f hc h
    refine z_aload_n C dX11_put_101 rfl ?_
    obtain ⟨M102, h102, h⟩ := e_bd h
    refine z_callVv (As := []) C (c_X11_minds l g h102) rfl O_31 rfl (gcV hsT tw_4_137 cw_X11_minds) rfl rfl rfl hy_X11_minds rfl ⟨Nat.le_of_ble_eq_true rfl, Nat.le_of_ble_eq_true rfl⟩ (Nat.le_of_ble_eq_true rfl) dX11_put_102 ?_
    refine z_aload_n C dX11_put_105 rfl ?_
    refine z_iload_n C dX11_put_106 rfl ?_
    refine z_iload_n C dX11_put_107 rfl ?_
    refine z_iload_n C dX11_put_108 rfl ?_
    refine z_iload C dX11_put_109 rfl ?_
    obtain ⟨M111, h111, h⟩ := e_bd h
    refine z_callVv (As := [.int x1, .int x2, .int x3, .int x4]) C (c_X11_comes l g h111) rfl O_31 rfl (gcV hsT tw_4_145 cw_X11_comes) rfl rfl rfl hy_X11_comes rfl ⟨Nat.le_of_ble_eq_true rfl, Nat.le_of_ble_eq_true rfl⟩ (Nat.le_of_ble_eq_true rfl) dX11_put_111 ?_
    refine z_aload_n C dX11_put_114 rfl ?_
    refine z_get C O_31 0 rfl (fun _ h9 => hsT _ (inX11 _ h9)) (by decide) (hsT _ tw_3_175) dX11_put_115 rfl ?_
    refine z_iconst (0 : Int32) C dX11_put_118 (by decide) ?_
    obtain ⟨v119, h119, h⟩ := e_bd h
    refine z_iald C I_32 h119 dX11_put_119 ?_
    refine z_iconst (1 : Int32) C dX11_put_120 (by decide) ?_
    refine z_isub C dX11_put_121 ?_
    obtain rfl := Option.some.inj h
    exact z_iret C E dX11_put_122
  · have h := e_t hc h
    refine z_ldc (v := (-1000000004 : Int32)) C (hsT _ tw_4_136) dX11_put_98 ?_
    obtain rfl := Option.some.inj h
    exact z_iret C E dX11_put_100
set_option maxRecDepth 100000 in
set_option maxHeartbeats 4000000 in
theorem tl_X11_put_69 {l : Launch} {g : Gx} {x : Cx} (C : zC g x l RX11 cX11_put wX11_put (rmm 3 67) 5) {M : MM} {x1 : Int32} {x2 : Int32} {x3 : Int32} {x4 : Int32} {r : (Int32 × MM)} (h : f_X11_put_T69 M x1 x2 x3 x4 = some r) (E : zRi g x .int r.1 r.2) : zJ g x M 69 [(0, .ref (ga g 31)), (1, .int x1), (2, .int x2), (3, .int x3), (4, .int x4)] [] := by
  unfold f_X11_put_T69 at h
  refine z_iload C dX11_put_69 rfl ?_
  refine z_iconst (-1 : Int32) C dX11_put_71 (by decide) ?_
  refine z_icmp_eq 87 C dX11_put_72 (by decide) (fun hc => ?_) (fun hc => ?_)
  · have h := e_t hc h
    refine z_sub [0, 1, 2, 3, 4] rfl ?_
    exact tl_X11_put_87 C h E
  · have h := e_f hc h
    refine z_aload_n C dX11_put_75 rfl ?_
    refine z_iload C dX11_put_76 rfl ?_
    obtain ⟨v78, h78, h⟩ := e_bd h
    refine z_callVi (As := [.int x4]) C (c_X11_isWoman l g h78) rfl O_31 rfl (gcV hsT tw_4_2 cw_X11_isWoman) rfl rfl rfl hy_X11_isWoman rfl ⟨Nat.le_of_ble_eq_true rfl, Nat.le_of_ble_eq_true rfl⟩ (Nat.le_of_ble_eq_true rfl) dX11_put_78 ?_
    refine z_if_ne 87 C dX11_put_81 (by decide) (fun hc => ?_) (fun hc => ?_)
    · have h := e_f hc h
      refine z_sub [0, 1, 2, 3, 4] rfl ?_
      exact tl_X11_put_87 C h E
    · have h := e_t hc h
      refine z_ldc (v := (-1000000003 : Int32)) C (hsT _ tw_4_121) dX11_put_84 ?_
      obtain rfl := Option.some.inj h
      exact z_iret C E dX11_put_86
set_option maxRecDepth 100000 in
set_option maxHeartbeats 4000000 in
theorem tl_X11_put_31 {l : Launch} {g : Gx} {x : Cx} (C : zC g x l RX11 cX11_put wX11_put (rmm 3 67) 5) {M : MM} {x1 : Int32} {x2 : Int32} {x3 : Int32} {x4 : Int32} {r : (Int32 × MM)} (h : f_X11_put_T31 M x1 x2 x3 x4 = some r) (E : zRi g x .int r.1 r.2) : zJ g x M 31 [(0, .ref (ga g 31)), (1, .int x1), (2, .int x2), (3, .int x3), (4, .int x4)] [] := by
  unfold f_X11_put_T31 at h
  refine z_iload_n C dX11_put_31 rfl ?_
  refine z_i2l C dX11_put_32 ?_
  refine z_lconst (0 : Int64) C dX11_put_33 (by decide) ?_
  refine z_lconst (1 : Int64) C dX11_put_34 (by decide) ?_
  obtain ⟨v35, h35, h⟩ := e_bd h
  refine z_callSi (As := [.long x1.toInt64, .long (0 : Int64), .long (1 : Int64)]) C (c_X11_in l g h35) rfl (gcS hsT tw_4_10 cw_X11_in) rfl rfl rfl hy_X11_in rfl ⟨Nat.le_of_ble_eq_true rfl, Nat.le_of_ble_eq_true rfl⟩ (Nat.le_of_ble_eq_true rfl) dX11_put_35 ?_
  refine z_if_eq 53 C dX11_put_38 (by decide) (fun hc => ?_) (fun hc => ?_)
  · have h := e_t hc h
    refine z_ldc (v := (-1000000002 : Int32)) C (hsT _ tw_4_85) dX11_put_53 ?_
    obtain rfl := Option.some.inj h
    exact z_iret C E dX11_put_55
  · have h := e_f hc h
    refine z_iload_n C dX11_put_41 rfl ?_
    refine z_i2l C dX11_put_42 ?_
    refine z_lconst (0 : Int64) C dX11_put_43 (by decide) ?_
    refine z_ldc2 (v := (9 : Int64)) C (hsT _ tw_4_135) dX11_put_44 ?_
    obtain ⟨v47, h47, h⟩ := e_bd h
    refine z_callSi (As := [.long x2.toInt64, .long (0 : Int64), .long (9 : Int64)]) C (c_X11_in l g h47) rfl (gcS hsT tw_4_10 cw_X11_in) rfl rfl rfl hy_X11_in rfl ⟨Nat.le_of_ble_eq_true rfl, Nat.le_of_ble_eq_true rfl⟩ (Nat.le_of_ble_eq_true rfl) dX11_put_47 ?_
    refine z_if_ne 56 C dX11_put_50 (by decide) (fun hc => ?_) (fun hc => ?_)
    · have h := e_f hc h
      refine z_iload_n C dX11_put_56 rfl ?_
      refine z_iconst (-1 : Int32) C dX11_put_57 (by decide) ?_
      refine z_icmp_eq 69 C dX11_put_58 (by decide) (fun hc => ?_) (fun hc => ?_)
      · have h := e_t hc h
        refine z_sub [0, 1, 2, 3, 4] rfl ?_
        exact tl_X11_put_69 C h E
      · have h := e_f hc h
        refine z_aload_n C dX11_put_61 rfl ?_
        refine z_iload_n C dX11_put_62 rfl ?_
        obtain ⟨v63, h63, h⟩ := e_bd h
        refine z_callVi (As := [.int x3]) C (c_X11_isMan l g h63) rfl O_31 rfl (gcV hsT tw_4_117 cw_X11_isMan) rfl rfl rfl hy_X11_isMan rfl ⟨Nat.le_of_ble_eq_true rfl, Nat.le_of_ble_eq_true rfl⟩ (Nat.le_of_ble_eq_true rfl) dX11_put_63 ?_
        refine z_if_eq 84 C dX11_put_66 (by decide) (fun hc => ?_) (fun hc => ?_)
        · have h := e_t hc h
          refine z_ldc (v := (-1000000003 : Int32)) C (hsT _ tw_4_121) dX11_put_84 ?_
          obtain rfl := Option.some.inj h
          exact z_iret C E dX11_put_86
        · have h := e_f hc h
          refine z_sub [0, 1, 2, 3, 4] rfl ?_
          exact tl_X11_put_69 C h E
    · have h := e_t hc h
      refine z_ldc (v := (-1000000002 : Int32)) C (hsT _ tw_4_85) dX11_put_53 ?_
      obtain rfl := Option.some.inj h
      exact z_iret C E dX11_put_55
set_option maxRecDepth 100000 in
set_option maxHeartbeats 4000000 in
theorem tl_X11_put_13 {l : Launch} {g : Gx} {x : Cx} (C : zC g x l RX11 cX11_put wX11_put (rmm 3 67) 5) {M : MM} {x1 : Int32} {x2 : Int32} {x3 : Int32} {x4 : Int32} {r : (Int32 × MM)} (h : f_X11_put_T13 M x1 x2 x3 x4 = some r) (E : zRi g x .int r.1 r.2) : zJ g x M 13 [(0, .ref (ga g 31)), (1, .int x1), (2, .int x2), (3, .int x3), (4, .int x4)] [] := by
  unfold f_X11_put_T13 at h
  refine z_iload C dX11_put_13 rfl ?_
  refine z_iconst (-1 : Int32) C dX11_put_15 (by decide) ?_
  refine z_icmp_eq 31 C dX11_put_16 (by decide) (fun hc => ?_) (fun hc => ?_)
  · have h := e_t hc h
    refine z_sub [0, 1, 2, 3, 4] rfl ?_
    exact tl_X11_put_31 C h E
  · have h := e_f hc h
    refine z_aload_n C dX11_put_19 rfl ?_
    refine z_iload C dX11_put_20 rfl ?_
    obtain ⟨v22, h22, h⟩ := e_bd h
    refine z_callVi (As := [.int x4]) C (c_X11_isOne l g h22) rfl O_31 rfl (gcV hsT tw_4_6 cw_X11_isOne) rfl rfl rfl hy_X11_isOne rfl ⟨Nat.le_of_ble_eq_true rfl, Nat.le_of_ble_eq_true rfl⟩ (Nat.le_of_ble_eq_true rfl) dX11_put_22 ?_
    refine z_if_ne 31 C dX11_put_25 (by decide) (fun hc => ?_) (fun hc => ?_)
    · have h := e_f hc h
      refine z_sub [0, 1, 2, 3, 4] rfl ?_
      exact tl_X11_put_31 C h E
    · have h := e_t hc h
      refine z_ldc (v := (-1000000001 : Int32)) C (hsT _ tw_4_90) dX11_put_28 ?_
      obtain rfl := Option.some.inj h
      exact z_iret C E dX11_put_30
set_option maxRecDepth 100000 in
set_option maxHeartbeats 4000000 in
theorem c_X11_put (l : Launch) (g : Gx) {M : MM} {x1 : Int32} {x2 : Int32} {x3 : Int32} {x4 : Int32} {r : Int32 × MM} (h : f_X11_put M x1 x2 x3 x4 = some r) : zMi l yX11_put wX11_put (rmm 3 67) [.ref (ga g 31), .int x1, .int x2, .int x3, .int x4] g M r.1 r.2 := by
  refine zMi_of .int (by decide) rfl (Nat.le_of_ble_eq_true rfl) rfl rfl ?_
  intro x C E
  show zJ g x M 0 [(0, .ref (ga g 31)), (1, .int x1), (2, .int x2), (3, .int x3), (4, .int x4)] []
  unfold f_X11_put at h
  refine z_iload_n C dX11_put_0 rfl ?_
  refine z_iconst (-1 : Int32) C dX11_put_1 (by decide) ?_
  refine z_icmp_eq 13 C dX11_put_2 (by decide) (fun hc => ?_) (fun hc => ?_)
  · have h := e_t hc h
    refine z_sub [0, 1, 2, 3, 4] rfl ?_
    exact tl_X11_put_13 C h E
  · have h := e_f hc h
    refine z_aload_n C dX11_put_5 rfl ?_
    refine z_iload_n C dX11_put_6 rfl ?_
    obtain ⟨v7, h7, h⟩ := e_bd h
    refine z_callVi (As := [.int x3]) C (c_X11_isOne l g h7) rfl O_31 rfl (gcV hsT tw_4_6 cw_X11_isOne) rfl rfl rfl hy_X11_isOne rfl ⟨Nat.le_of_ble_eq_true rfl, Nat.le_of_ble_eq_true rfl⟩ (Nat.le_of_ble_eq_true rfl) dX11_put_7 ?_
    refine z_if_eq 28 C dX11_put_10 (by decide) (fun hc => ?_) (fun hc => ?_)
    · have h := e_t hc h
      refine z_ldc (v := (-1000000001 : Int32)) C (hsT _ tw_4_90) dX11_put_28 ?_
      obtain rfl := Option.some.inj h
      exact z_iret C E dX11_put_30
    · have h := e_f hc h
      refine z_sub [0, 1, 2, 3, 4] rfl ?_
      exact tl_X11_put_13 C h E
theorem hy_X11_bounds : yX11_bounds.cls = RX11 ∧ yX11_bounds.cls ≠ "java/lang/invoke/MethodHandle" ∧ yX11_bounds.cls ≠ "java/lang/invoke/VarHandle" ∧ (parseMethodDescriptor yX11_bounds.desc).map (fun d => d.parameters.length) = some 4 := by decide +kernel
def wX11_bounds : List Cond := Cond.code yX11_bounds cX11_bounds 5 (some .int) :: TB
def f_X11_bounds (M : MM) (x1 : Int32) (x2 : Int32) (x3 : Int32) (x4 : Int32) : Option (Int32 × MM) :=
  (f_X11_isOne M x2).bind fun (v2 : Int32) =>
  if v2 = 0 then
    some ((-1000000001 : Int32), M)
  else
    (f_X11_in M x3.toInt64 (0 : Int64) (999 : Int64)).bind fun (v17 : Int32) =>
    if v17 = 0 then
      some ((-1000000002 : Int32), M)
    else
      (f_X11_in M x4.toInt64 x3.toInt64 (999 : Int64)).bind fun (v31 : Int32) =>
      if v31 = 0 then
        some ((-1000000002 : Int32), M)
      else
        (f_X11_minds M ).bind fun (M41 : MM) =>
        (z_sto M41 32 3243 (x1 + ((2 : Int32) * x2)) x3).bind fun (M54 : MM) =>
        (z_sto M54 32 3243 ((x1 + ((2 : Int32) * x2)) + (1 : Int32)) x4).bind fun (M68 : MM) =>
        (f_X11_narrows M68 ).bind fun (s70 : Int32 × MM) =>
        (if s70.1 = 0 then
          some (1 : Int32)
        else
          some (0 : Int32)
        ).bind fun (j73 : Int32) =>
          some (j73, s70.2)
set_option maxRecDepth 100000 in
set_option maxHeartbeats 4000000 in
theorem c_X11_bounds (l : Launch) (g : Gx) {M : MM} {x1 : Int32} {x2 : Int32} {x3 : Int32} {x4 : Int32} {r : Int32 × MM} (h : f_X11_bounds M x1 x2 x3 x4 = some r) : zMi l yX11_bounds wX11_bounds (rmm 3 68) [.ref (ga g 31), .int x1, .int x2, .int x3, .int x4] g M r.1 r.2 := by
  refine zMi_of .int (by decide) rfl (Nat.le_of_ble_eq_true rfl) rfl rfl ?_
  intro x C E
  show zJ g x M 0 [(0, .ref (ga g 31)), (1, .int x1), (2, .int x2), (3, .int x3), (4, .int x4)] []
  unfold f_X11_bounds at h
  refine z_aload_n C dX11_bounds_0 rfl ?_
  refine z_iload_n C dX11_bounds_1 rfl ?_
  obtain ⟨v2, h2, h⟩ := e_bd h
  refine z_callVi (As := [.int x2]) C (c_X11_isOne l g h2) rfl O_31 rfl (gcV hsT tw_4_6 cw_X11_isOne) rfl rfl rfl hy_X11_isOne rfl ⟨Nat.le_of_ble_eq_true rfl, Nat.le_of_ble_eq_true rfl⟩ (Nat.le_of_ble_eq_true rfl) dX11_bounds_2 ?_
  refine z_if_ne 11 C dX11_bounds_5 (by decide) (fun hc => ?_) (fun hc => ?_)
  · have h := e_f hc h
    refine z_iload_n C dX11_bounds_11 rfl ?_
    refine z_i2l C dX11_bounds_12 ?_
    refine z_lconst (0 : Int64) C dX11_bounds_13 (by decide) ?_
    refine z_ldc2 (v := (999 : Int64)) C (hsT _ tw_4_126) dX11_bounds_14 ?_
    obtain ⟨v17, h17, h⟩ := e_bd h
    refine z_callSi (As := [.long x3.toInt64, .long (0 : Int64), .long (999 : Int64)]) C (c_X11_in l g h17) rfl (gcS hsT tw_4_10 cw_X11_in) rfl rfl rfl hy_X11_in rfl ⟨Nat.le_of_ble_eq_true rfl, Nat.le_of_ble_eq_true rfl⟩ (Nat.le_of_ble_eq_true rfl) dX11_bounds_17 ?_
    refine z_if_eq 37 C dX11_bounds_20 (by decide) (fun hc => ?_) (fun hc => ?_)
    · have h := e_t hc h
      refine z_ldc (v := (-1000000002 : Int32)) C (hsT _ tw_4_85) dX11_bounds_37 ?_
      obtain rfl := Option.some.inj h
      exact z_iret C E dX11_bounds_39
    · have h := e_f hc h
      refine z_iload C dX11_bounds_23 rfl ?_
      refine z_i2l C dX11_bounds_25 ?_
      refine z_iload_n C dX11_bounds_26 rfl ?_
      refine z_i2l C dX11_bounds_27 ?_
      refine z_ldc2 (v := (999 : Int64)) C (hsT _ tw_4_126) dX11_bounds_28 ?_
      obtain ⟨v31, h31, h⟩ := e_bd h
      refine z_callSi (As := [.long x4.toInt64, .long x3.toInt64, .long (999 : Int64)]) C (c_X11_in l g h31) rfl (gcS hsT tw_4_10 cw_X11_in) rfl rfl rfl hy_X11_in rfl ⟨Nat.le_of_ble_eq_true rfl, Nat.le_of_ble_eq_true rfl⟩ (Nat.le_of_ble_eq_true rfl) dX11_bounds_31 ?_
      refine z_if_ne 40 C dX11_bounds_34 (by decide) (fun hc => ?_) (fun hc => ?_)
      · have h := e_f hc h
        refine z_aload_n C dX11_bounds_40 rfl ?_
        obtain ⟨M41, h41, h⟩ := e_bd h
        refine z_callVv (As := []) C (c_X11_minds l g h41) rfl O_31 rfl (gcV hsT tw_4_137 cw_X11_minds) rfl rfl rfl hy_X11_minds rfl ⟨Nat.le_of_ble_eq_true rfl, Nat.le_of_ble_eq_true rfl⟩ (Nat.le_of_ble_eq_true rfl) dX11_bounds_41 ?_
        refine z_aload_n C dX11_bounds_44 rfl ?_
        refine z_get C O_31 0 rfl (fun _ h9 => hsT _ (inX11 _ h9)) (by decide) (hsT _ tw_3_175) dX11_bounds_45 rfl ?_
        refine z_iload_n C dX11_bounds_48 rfl ?_
        refine z_iconst (2 : Int32) C dX11_bounds_49 (by decide) ?_
        refine z_iload_n C dX11_bounds_50 rfl ?_
        refine z_imul C dX11_bounds_51 ?_
        refine z_iadd C dX11_bounds_52 ?_
        refine z_iload_n C dX11_bounds_53 rfl ?_
        obtain ⟨M54, h54, h⟩ := e_bd h
        refine z_iast C I_32 h54 dX11_bounds_54 ?_
        refine z_aload_n C dX11_bounds_55 rfl ?_
        refine z_get C O_31 0 rfl (fun _ h9 => hsT _ (inX11 _ h9)) (by decide) (hsT _ tw_3_175) dX11_bounds_56 rfl ?_
        refine z_iload_n C dX11_bounds_59 rfl ?_
        refine z_iconst (2 : Int32) C dX11_bounds_60 (by decide) ?_
        refine z_iload_n C dX11_bounds_61 rfl ?_
        refine z_imul C dX11_bounds_62 ?_
        refine z_iadd C dX11_bounds_63 ?_
        refine z_iconst (1 : Int32) C dX11_bounds_64 (by decide) ?_
        refine z_iadd C dX11_bounds_65 ?_
        refine z_iload C dX11_bounds_66 rfl ?_
        obtain ⟨M68, h68, h⟩ := e_bd h
        refine z_iast C I_32 h68 dX11_bounds_68 ?_
        refine z_aload_n C dX11_bounds_69 rfl ?_
        obtain ⟨s70, h70, h⟩ := e_bd h
        refine z_callVi (As := []) C (c_X11_narrows l g h70) rfl O_31 rfl (gcV hsT tw_4_41 cw_X11_narrows) rfl rfl rfl hy_X11_narrows rfl ⟨Nat.le_of_ble_eq_true rfl, Nat.le_of_ble_eq_true rfl⟩ (Nat.le_of_ble_eq_true rfl) dX11_bounds_70 ?_
        obtain ⟨j73, h73, h⟩ := e_bd h
        have hj73 : zJ g x s70.2 81 [] [.int j73] := by
          obtain rfl := Option.some.inj h
          exact z_iret C E dX11_bounds_81
        have h := h73
        refine z_if_eq 80 C dX11_bounds_73 (by decide) (fun hc => ?_) (fun hc => ?_)
        · have h := e_t hc h
          refine z_iconst (1 : Int32) C dX11_bounds_80 (by decide) ?_
          obtain rfl := Option.some.inj h
          exact z_sub [] rfl hj73
        · have h := e_f hc h
          refine z_iconst (0 : Int32) C dX11_bounds_76 (by decide) ?_
          refine z_goto 81 C dX11_bounds_77 (by decide) ?_
          obtain rfl := Option.some.inj h
          exact z_sub [] rfl hj73
      · have h := e_t hc h
        refine z_ldc (v := (-1000000002 : Int32)) C (hsT _ tw_4_85) dX11_bounds_37 ?_
        obtain rfl := Option.some.inj h
        exact z_iret C E dX11_bounds_39
  · have h := e_t hc h
    refine z_ldc (v := (-1000000001 : Int32)) C (hsT _ tw_4_90) dX11_bounds_8 ?_
    obtain rfl := Option.some.inj h
    exact z_iret C E dX11_bounds_10
theorem hy_X11_born : yX11_born.cls = RX11 ∧ yX11_born.cls ≠ "java/lang/invoke/MethodHandle" ∧ yX11_born.cls ≠ "java/lang/invoke/VarHandle" ∧ (parseMethodDescriptor yX11_born.desc).map (fun d => d.parameters.length) = some 3 := by decide +kernel
def wX11_born : List Cond := Cond.code yX11_born cX11_born 4 (some .int) :: TB
def f_X11_born (M : MM) (x1 : Int32) (x2 : Int32) (x3 : Int32) : Option (Int32 × MM) :=
  (f_X11_bounds M (77 : Int32) x1 x2 x3).bind fun (s6 : Int32 × MM) =>
  some (s6.1, s6.2)
set_option maxRecDepth 100000 in
set_option maxHeartbeats 4000000 in
theorem c_X11_born (l : Launch) (g : Gx) {M : MM} {x1 : Int32} {x2 : Int32} {x3 : Int32} {r : Int32 × MM} (h : f_X11_born M x1 x2 x3 = some r) : zMi l yX11_born wX11_born (rmm 4 92) [.ref (ga g 31), .int x1, .int x2, .int x3] g M r.1 r.2 := by
  refine zMi_of .int (by decide) rfl (Nat.le_of_ble_eq_true rfl) rfl rfl ?_
  intro x C E
  show zJ g x M 0 [(0, .ref (ga g 31)), (1, .int x1), (2, .int x2), (3, .int x3)] []
  unfold f_X11_born at h
  refine z_aload_n C dX11_born_0 rfl ?_
  refine z_bipush (77 : Int32) C dX11_born_1 (by decide) ?_
  refine z_iload_n C dX11_born_3 rfl ?_
  refine z_iload_n C dX11_born_4 rfl ?_
  refine z_iload_n C dX11_born_5 rfl ?_
  obtain ⟨s6, h6, h⟩ := e_bd h
  refine z_callVi (As := [.int (77 : Int32), .int x1, .int x2, .int x3]) C (c_X11_bounds l g h6) rfl O_31 rfl (gcV hsT tw_4_153 cw_X11_bounds) rfl rfl rfl hy_X11_bounds rfl ⟨Nat.le_of_ble_eq_true rfl, Nat.le_of_ble_eq_true rfl⟩ (Nat.le_of_ble_eq_true rfl) dX11_born_6 ?_
  obtain rfl := Option.some.inj h
  exact z_iret C E dX11_born_9
theorem hy_X11_died : yX11_died.cls = RX11 ∧ yX11_died.cls ≠ "java/lang/invoke/MethodHandle" ∧ yX11_died.cls ≠ "java/lang/invoke/VarHandle" ∧ (parseMethodDescriptor yX11_died.desc).map (fun d => d.parameters.length) = some 3 := by decide +kernel
def wX11_died : List Cond := Cond.code yX11_died cX11_died 4 (some .int) :: TB
def f_X11_died (M : MM) (x1 : Int32) (x2 : Int32) (x3 : Int32) : Option (Int32 × MM) :=
  (f_X11_bounds M (109 : Int32) x1 x2 x3).bind fun (s6 : Int32 × MM) =>
  some (s6.1, s6.2)
set_option maxRecDepth 100000 in
set_option maxHeartbeats 4000000 in
theorem c_X11_died (l : Launch) (g : Gx) {M : MM} {x1 : Int32} {x2 : Int32} {x3 : Int32} {r : Int32 × MM} (h : f_X11_died M x1 x2 x3 = some r) : zMi l yX11_died wX11_died (rmm 4 92) [.ref (ga g 31), .int x1, .int x2, .int x3] g M r.1 r.2 := by
  refine zMi_of .int (by decide) rfl (Nat.le_of_ble_eq_true rfl) rfl rfl ?_
  intro x C E
  show zJ g x M 0 [(0, .ref (ga g 31)), (1, .int x1), (2, .int x2), (3, .int x3)] []
  unfold f_X11_died at h
  refine z_aload_n C dX11_died_0 rfl ?_
  refine z_bipush (109 : Int32) C dX11_died_1 (by decide) ?_
  refine z_iload_n C dX11_died_3 rfl ?_
  refine z_iload_n C dX11_died_4 rfl ?_
  refine z_iload_n C dX11_died_5 rfl ?_
  obtain ⟨s6, h6, h⟩ := e_bd h
  refine z_callVi (As := [.int (109 : Int32), .int x1, .int x2, .int x3]) C (c_X11_bounds l g h6) rfl O_31 rfl (gcV hsT tw_4_153 cw_X11_bounds) rfl rfl rfl hy_X11_bounds rfl ⟨Nat.le_of_ble_eq_true rfl, Nat.le_of_ble_eq_true rfl⟩ (Nat.le_of_ble_eq_true rfl) dX11_died_6 ?_
  obtain rfl := Option.some.inj h
  exact z_iret C E dX11_died_9
theorem hy_X11_rule : yX11_rule.cls = RX11 ∧ yX11_rule.cls ≠ "java/lang/invoke/MethodHandle" ∧ yX11_rule.cls ≠ "java/lang/invoke/VarHandle" ∧ (parseMethodDescriptor yX11_rule.desc).map (fun d => d.parameters.length) = some 1 := by decide +kernel
def wX11_rule : List Cond := Cond.code yX11_rule cX11_rule 2 (some .int) :: TB
def f_X11_rule (M : MM) (x1 : Int32) : Option (Int32 × MM) :=
  (f_X11_in M x1.toInt64 (0 : Int64) (2 : Int64)).bind fun (v6 : Int32) =>
  if v6 = 0 then
    some ((-1000000002 : Int32), M)
  else
    (f_X11_minds M ).bind fun (M16 : MM) =>
    (z_sto M16 32 3243 (1 : Int32) x1).bind fun (M25 : MM) =>
    (f_X11_coats M25 ).bind fun (s27 : Int32 × MM) =>
    some (s27.1, s27.2)
set_option maxRecDepth 100000 in
set_option maxHeartbeats 4000000 in
theorem c_X11_rule (l : Launch) (g : Gx) {M : MM} {x1 : Int32} {r : Int32 × MM} (h : f_X11_rule M x1 = some r) : zMi l yX11_rule wX11_rule (rmm 7 158) [.ref (ga g 31), .int x1] g M r.1 r.2 := by
  refine zMi_of .int (by decide) rfl (Nat.le_of_ble_eq_true rfl) rfl rfl ?_
  intro x C E
  show zJ g x M 0 [(0, .ref (ga g 31)), (1, .int x1)] []
  unfold f_X11_rule at h
  refine z_iload_n C dX11_rule_0 rfl ?_
  refine z_i2l C dX11_rule_1 ?_
  refine z_lconst (0 : Int64) C dX11_rule_2 (by decide) ?_
  refine z_ldc2 (v := (2 : Int64)) C (hsT _ tw_4_165) dX11_rule_3 ?_
  obtain ⟨v6, h6, h⟩ := e_bd h
  refine z_callSi (As := [.long x1.toInt64, .long (0 : Int64), .long (2 : Int64)]) C (c_X11_in l g h6) rfl (gcS hsT tw_4_10 cw_X11_in) rfl rfl rfl hy_X11_in rfl ⟨Nat.le_of_ble_eq_true rfl, Nat.le_of_ble_eq_true rfl⟩ (Nat.le_of_ble_eq_true rfl) dX11_rule_6 ?_
  refine z_if_ne 15 C dX11_rule_9 (by decide) (fun hc => ?_) (fun hc => ?_)
  · have h := e_f hc h
    refine z_aload_n C dX11_rule_15 rfl ?_
    obtain ⟨M16, h16, h⟩ := e_bd h
    refine z_callVv (As := []) C (c_X11_minds l g h16) rfl O_31 rfl (gcV hsT tw_4_137 cw_X11_minds) rfl rfl rfl hy_X11_minds rfl ⟨Nat.le_of_ble_eq_true rfl, Nat.le_of_ble_eq_true rfl⟩ (Nat.le_of_ble_eq_true rfl) dX11_rule_16 ?_
    refine z_aload_n C dX11_rule_19 rfl ?_
    refine z_get C O_31 0 rfl (fun _ h9 => hsT _ (inX11 _ h9)) (by decide) (hsT _ tw_3_175) dX11_rule_20 rfl ?_
    refine z_iconst (1 : Int32) C dX11_rule_23 (by decide) ?_
    refine z_iload_n C dX11_rule_24 rfl ?_
    obtain ⟨M25, h25, h⟩ := e_bd h
    refine z_iast C I_32 h25 dX11_rule_25 ?_
    refine z_aload_n C dX11_rule_26 rfl ?_
    obtain ⟨s27, h27, h⟩ := e_bd h
    refine z_callVi (As := []) C (c_X11_coats l g h27) rfl O_31 rfl (gcV hsT tw_4_13 cw_X11_coats) rfl rfl rfl hy_X11_coats rfl ⟨Nat.le_of_ble_eq_true rfl, Nat.le_of_ble_eq_true rfl⟩ (Nat.le_of_ble_eq_true rfl) dX11_rule_27 ?_
    obtain rfl := Option.some.inj h
    exact z_iret C E dX11_rule_30
  · have h := e_t hc h
    refine z_ldc (v := (-1000000002 : Int32)) C (hsT _ tw_4_85) dX11_rule_12 ?_
    obtain rfl := Option.some.inj h
    exact z_iret C E dX11_rule_14
theorem hy_X11_sign : yX11_sign.cls = RX11 ∧ yX11_sign.cls ≠ "java/lang/invoke/MethodHandle" ∧ yX11_sign.cls ≠ "java/lang/invoke/VarHandle" ∧ (parseMethodDescriptor yX11_sign.desc).map (fun d => d.parameters.length) = some 1 := by decide +kernel
def wX11_sign : List Cond := Cond.code yX11_sign cX11_sign 2 (some .int) :: TB
def f_X11_sign (M : MM) (x1 : Int32) : Option (Int32 × MM) :=
  (f_X11_in M x1.toInt64 (0 : Int64) (10 : Int64)).bind fun (v6 : Int32) =>
  if v6 = 0 then
    some ((-1000000002 : Int32), M)
  else
    (z_ld M 32 3243 (2 : Int32)).bind fun (v20 : Int32) =>
    if v20 = (10 : Int32) then
      some ((-1000000004 : Int32), M)
    else
      (f_X11_minds M ).bind fun (M30 : MM) =>
      (z_ld M30 32 3243 (2 : Int32)).bind fun (v43 : Int32) =>
      (z_sto M30 32 3243 ((3 : Int32) + v43) x1).bind fun (M46 : MM) =>
      (z_ld M46 32 3243 (2 : Int32)).bind fun (v53 : Int32) =>
      (z_sto M46 32 3243 (2 : Int32) (v53 + (1 : Int32))).bind fun (M56 : MM) =>
      (z_ld M56 32 3243 (2 : Int32)).bind fun (v62 : Int32) =>
      some (v62, M56)
set_option maxRecDepth 100000 in
set_option maxHeartbeats 4000000 in
theorem c_X11_sign (l : Launch) (g : Gx) {M : MM} {x1 : Int32} {r : Int32 × MM} (h : f_X11_sign M x1 = some r) : zMi l yX11_sign wX11_sign (rmm 2 44) [.ref (ga g 31), .int x1] g M r.1 r.2 := by
  refine zMi_of .int (by decide) rfl (Nat.le_of_ble_eq_true rfl) rfl rfl ?_
  intro x C E
  show zJ g x M 0 [(0, .ref (ga g 31)), (1, .int x1)] []
  unfold f_X11_sign at h
  refine z_iload_n C dX11_sign_0 rfl ?_
  refine z_i2l C dX11_sign_1 ?_
  refine z_lconst (0 : Int64) C dX11_sign_2 (by decide) ?_
  refine z_ldc2 (v := (10 : Int64)) C (hsT _ tw_4_170) dX11_sign_3 ?_
  obtain ⟨v6, h6, h⟩ := e_bd h
  refine z_callSi (As := [.long x1.toInt64, .long (0 : Int64), .long (10 : Int64)]) C (c_X11_in l g h6) rfl (gcS hsT tw_4_10 cw_X11_in) rfl rfl rfl hy_X11_in rfl ⟨Nat.le_of_ble_eq_true rfl, Nat.le_of_ble_eq_true rfl⟩ (Nat.le_of_ble_eq_true rfl) dX11_sign_6 ?_
  refine z_if_ne 15 C dX11_sign_9 (by decide) (fun hc => ?_) (fun hc => ?_)
  · have h := e_f hc h
    refine z_aload_n C dX11_sign_15 rfl ?_
    refine z_get C O_31 0 rfl (fun _ h9 => hsT _ (inX11 _ h9)) (by decide) (hsT _ tw_3_175) dX11_sign_16 rfl ?_
    refine z_iconst (2 : Int32) C dX11_sign_19 (by decide) ?_
    obtain ⟨v20, h20, h⟩ := e_bd h
    refine z_iald C I_32 h20 dX11_sign_20 ?_
    refine z_bipush (10 : Int32) C dX11_sign_21 (by decide) ?_
    refine z_icmp_ne 29 C dX11_sign_23 (by decide) (fun hc => ?_) (fun hc => ?_)
    · have h := e_f hc h
      refine z_aload_n C dX11_sign_29 rfl ?_
      obtain ⟨M30, h30, h⟩ := e_bd h
      refine z_callVv (As := []) C (c_X11_minds l g h30) rfl O_31 rfl (gcV hsT tw_4_137 cw_X11_minds) rfl rfl rfl hy_X11_minds rfl ⟨Nat.le_of_ble_eq_true rfl, Nat.le_of_ble_eq_true rfl⟩ (Nat.le_of_ble_eq_true rfl) dX11_sign_30 ?_
      refine z_aload_n C dX11_sign_33 rfl ?_
      refine z_get C O_31 0 rfl (fun _ h9 => hsT _ (inX11 _ h9)) (by decide) (hsT _ tw_3_175) dX11_sign_34 rfl ?_
      refine z_iconst (3 : Int32) C dX11_sign_37 (by decide) ?_
      refine z_aload_n C dX11_sign_38 rfl ?_
      refine z_get C O_31 0 rfl (fun _ h9 => hsT _ (inX11 _ h9)) (by decide) (hsT _ tw_3_175) dX11_sign_39 rfl ?_
      refine z_iconst (2 : Int32) C dX11_sign_42 (by decide) ?_
      obtain ⟨v43, h43, h⟩ := e_bd h
      refine z_iald C I_32 h43 dX11_sign_43 ?_
      refine z_iadd C dX11_sign_44 ?_
      refine z_iload_n C dX11_sign_45 rfl ?_
      obtain ⟨M46, h46, h⟩ := e_bd h
      refine z_iast C I_32 h46 dX11_sign_46 ?_
      refine z_aload_n C dX11_sign_47 rfl ?_
      refine z_get C O_31 0 rfl (fun _ h9 => hsT _ (inX11 _ h9)) (by decide) (hsT _ tw_3_175) dX11_sign_48 rfl ?_
      refine z_iconst (2 : Int32) C dX11_sign_51 (by decide) ?_
      refine z_dup2 C dX11_sign_52 rfl rfl ?_
      obtain ⟨v53, h53, h⟩ := e_bd h
      refine z_iald C I_32 h53 dX11_sign_53 ?_
      refine z_iconst (1 : Int32) C dX11_sign_54 (by decide) ?_
      refine z_iadd C dX11_sign_55 ?_
      obtain ⟨M56, h56, h⟩ := e_bd h
      refine z_iast C I_32 h56 dX11_sign_56 ?_
      refine z_aload_n C dX11_sign_57 rfl ?_
      refine z_get C O_31 0 rfl (fun _ h9 => hsT _ (inX11 _ h9)) (by decide) (hsT _ tw_3_175) dX11_sign_58 rfl ?_
      refine z_iconst (2 : Int32) C dX11_sign_61 (by decide) ?_
      obtain ⟨v62, h62, h⟩ := e_bd h
      refine z_iald C I_32 h62 dX11_sign_62 ?_
      obtain rfl := Option.some.inj h
      exact z_iret C E dX11_sign_63
    · have h := e_t hc h
      refine z_ldc (v := (-1000000004 : Int32)) C (hsT _ tw_4_136) dX11_sign_26 ?_
      obtain rfl := Option.some.inj h
      exact z_iret C E dX11_sign_28
  · have h := e_t hc h
    refine z_ldc (v := (-1000000002 : Int32)) C (hsT _ tw_4_85) dX11_sign_12 ?_
    obtain rfl := Option.some.inj h
    exact z_iret C E dX11_sign_14
theorem hy_X11_wipe : yX11_wipe.cls = RX11 ∧ yX11_wipe.cls ≠ "java/lang/invoke/MethodHandle" ∧ yX11_wipe.cls ≠ "java/lang/invoke/VarHandle" ∧ (parseMethodDescriptor yX11_wipe.desc).map (fun d => d.parameters.length) = some 0 := by decide +kernel
def wX11_wipe : List Cond := Cond.code yX11_wipe cX11_wipe 2 (some .int) :: TB
def f_X11_wipe (M : MM)  : Option (Int32 × MM) :=
  (f_X11_minds M ).bind fun (M1 : MM) =>
  (z_ld M1 32 3243 (2 : Int32)).bind fun (v9 : Int32) =>
  (z_sto M1 32 3243 (2 : Int32) (0 : Int32)).bind fun (M17 : MM) =>
  some (v9, M17)
set_option maxRecDepth 100000 in
set_option maxHeartbeats 4000000 in
theorem c_X11_wipe (l : Launch) (g : Gx) {M : MM}  {r : Int32 × MM} (h : f_X11_wipe M  = some r) : zMi l yX11_wipe wX11_wipe (rmm 2 44) [.ref (ga g 31)] g M r.1 r.2 := by
  refine zMi_of .int (by decide) rfl (Nat.le_of_ble_eq_true rfl) rfl rfl ?_
  intro x C E
  show zJ g x M 0 [(0, .ref (ga g 31))] []
  unfold f_X11_wipe at h
  refine z_aload_n C dX11_wipe_0 rfl ?_
  obtain ⟨M1, h1, h⟩ := e_bd h
  refine z_callVv (As := []) C (c_X11_minds l g h1) rfl O_31 rfl (gcV hsT tw_4_137 cw_X11_minds) rfl rfl rfl hy_X11_minds rfl ⟨Nat.le_of_ble_eq_true rfl, Nat.le_of_ble_eq_true rfl⟩ (Nat.le_of_ble_eq_true rfl) dX11_wipe_1 ?_
  refine z_aload_n C dX11_wipe_4 rfl ?_
  refine z_get C O_31 0 rfl (fun _ h9 => hsT _ (inX11 _ h9)) (by decide) (hsT _ tw_3_175) dX11_wipe_5 rfl ?_
  refine z_iconst (2 : Int32) C dX11_wipe_8 (by decide) ?_
  obtain ⟨v9, h9, h⟩ := e_bd h
  refine z_iald C I_32 h9 dX11_wipe_9 ?_
  refine z_istore_n [(1, .int v9), (0, .ref (ga g 31))] C dX11_wipe_10 (by decide) rfl ?_
  refine z_aload_n C dX11_wipe_11 rfl ?_
  refine z_get C O_31 0 rfl (fun _ h9 => hsT _ (inX11 _ h9)) (by decide) (hsT _ tw_3_175) dX11_wipe_12 rfl ?_
  refine z_iconst (2 : Int32) C dX11_wipe_15 (by decide) ?_
  refine z_iconst (0 : Int32) C dX11_wipe_16 (by decide) ?_
  obtain ⟨M17, h17, h⟩ := e_bd h
  refine z_iast C I_32 h17 dX11_wipe_17 ?_
  refine z_iload_n C dX11_wipe_18 rfl ?_
  obtain rfl := Option.some.inj h
  exact z_iret C E dX11_wipe_19
theorem hy_X11_draw : yX11_draw.cls = RX11 ∧ yX11_draw.cls ≠ "java/lang/invoke/MethodHandle" ∧ yX11_draw.cls ≠ "java/lang/invoke/VarHandle" ∧ (parseMethodDescriptor yX11_draw.desc).map (fun d => d.parameters.length) = some 1 := by decide +kernel
def wX11_draw : List Cond := Cond.code yX11_draw cX11_draw 2 (some .int) :: TB
def f_X11_draw (M : MM) (x1 : Int32) : Option (Int32 × MM) :=
  (z_rml (((M 31 4).toInt64 * (1103515245 : Int64)) + (12345 : Int64)) (2147483648 : Int64)).bind fun (v17 : Int64) =>
  (z_stf M 31 4 v17.toInt32).bind fun (M19 : MM) =>
  (z_div (M19 31 4) (65536 : Int32)).bind fun (v28 : Int32) =>
  (z_rem v28 x1).bind fun (v30 : Int32) =>
  some (v30, M19)
set_option maxRecDepth 100000 in
set_option maxHeartbeats 4000000 in
theorem c_X11_draw (l : Launch) (g : Gx) {M : MM} {x1 : Int32} {r : Int32 × MM} (h : f_X11_draw M x1 = some r) : zMi l yX11_draw wX11_draw (rmm 0 0) [.ref (ga g 31), .int x1] g M r.1 r.2 := by
  refine zMi_of .int (by decide) rfl (Nat.le_of_ble_eq_true rfl) rfl rfl ?_
  intro x C E
  show zJ g x M 0 [(0, .ref (ga g 31)), (1, .int x1)] []
  unfold f_X11_draw at h
  refine z_aload_n C dX11_draw_0 rfl ?_
  refine z_aload_n C dX11_draw_1 rfl ?_
  refine z_get C O_31 4 rfl (fun _ h9 => hsT _ (inX11 _ h9)) (by decide) (hsT _ tw_3_179) dX11_draw_2 rfl ?_
  refine z_i2l C dX11_draw_5 ?_
  refine z_ldc2 (v := (1103515245 : Int64)) C (hsT _ tw_4_184) dX11_draw_6 ?_
  refine z_lmul C dX11_draw_9 ?_
  refine z_ldc2 (v := (12345 : Int64)) C (hsT _ tw_4_185) dX11_draw_10 ?_
  refine z_ladd C dX11_draw_13 ?_
  refine z_ldc2 (v := (2147483648 : Int64)) C (hsT _ tw_4_186) dX11_draw_14 ?_
  obtain ⟨v17, h17, h⟩ := e_bd h
  refine z_lrem C h17 dX11_draw_17 ?_
  refine z_l2i C dX11_draw_18 ?_
  obtain ⟨M19, h19, h⟩ := e_bd h
  refine z_puti tyX11 C O_31 4 O_31_4 rfl (fun _ h9 => hsT _ (inX11 _ h9)) tyX11_ok nmX11 (by decide) rfl (Nat.le_of_ble_eq_true rfl) (hsT _ tw_3_179) dX11_draw_19 rfl h19 ?_
  refine z_aload_n C dX11_draw_22 rfl ?_
  refine z_get C O_31 4 rfl (fun _ h9 => hsT _ (inX11 _ h9)) (by decide) (hsT _ tw_3_179) dX11_draw_23 rfl ?_
  refine z_ldc (v := (65536 : Int32)) C (hsT _ tw_4_187) dX11_draw_26 ?_
  obtain ⟨v28, h28, h⟩ := e_bd h
  refine z_idiv C h28 dX11_draw_28 ?_
  refine z_iload_n C dX11_draw_29 rfl ?_
  obtain ⟨v30, h30, h⟩ := e_bd h
  refine z_irem C h30 dX11_draw_30 ?_
  obtain rfl := Option.some.inj h
  exact z_iret C E dX11_draw_31
theorem hy_X11_drift : yX11_drift.cls = RX11 ∧ yX11_drift.cls ≠ "java/lang/invoke/MethodHandle" ∧ yX11_drift.cls ≠ "java/lang/invoke/VarHandle" ∧ (parseMethodDescriptor yX11_drift.desc).map (fun d => d.parameters.length) = some 1 := by decide +kernel
def wX11_drift : List Cond := Cond.code yX11_drift cX11_drift 7 (some .int) :: TB
def f_X11_drift_L17 : Nat → MM → Int32 → Int32 → Option (MM)
  | 0, _, _, _ => none
  | n + 1, M, x1, x2 =>
    if x1 ≤ x2 then
      some M
    else
      (z_ld M 32 3243 (0 : Int32)).bind fun (v27 : Int32) =>
      if (16 : Int32) ≤ v27 then
        some M
      else
        (f_X11_minds M ).bind fun (M34 : MM) =>
        (f_X11_draw M34 (2 : Int32)).bind fun (s39 : Int32 × MM) =>
        (f_X11_draw s39.2 (10 : Int32)).bind fun (s46 : Int32 × MM) =>
        (z_ld s46.2 32 3243 (0 : Int32)).bind fun (v57 : Int32) =>
        (f_X11_draw s46.2 (v57 + (1 : Int32))).bind fun (s60 : Int32 × MM) =>
        (z_ld s60.2 32 3243 (0 : Int32)).bind fun (v73 : Int32) =>
        (f_X11_draw s60.2 (v73 + (1 : Int32))).bind fun (s76 : Int32 × MM) =>
        (f_X11_isMan s76.2 (s60.1 - (1 : Int32))).bind fun (v90 : Int32) =>
        (if v90 = 0 then
          some (-1 : Int32)
        else
          some (s60.1 - (1 : Int32))
        ).bind fun (j93 : Int32) =>
          (f_X11_isWoman s76.2 (s76.1 - (1 : Int32))).bind fun (v105 : Int32) =>
          (if v105 = 0 then
            some (-1 : Int32)
          else
            some (s76.1 - (1 : Int32))
          ).bind fun (j108 : Int32) =>
            (f_X11_comes s76.2 s39.1 s46.1 j93 j108).bind fun (M117 : MM) =>
            f_X11_drift_L17 n M117 x1 (x2 + (1 : Int32))
def f_X11_drift (M : MM) (x1 : Int32) : Option (Int32 × MM) :=
  (f_X11_in M x1.toInt64 (1 : Int64) (16 : Int64)).bind fun (v6 : Int32) =>
  if v6 = 0 then
    some ((-1000000002 : Int32), M)
  else
    (f_X11_drift_L17 FU M x1 (0 : Int32)).bind fun (w17 : MM) =>
    (z_ld w17 32 3243 (0 : Int32)).bind fun (v131 : Int32) =>
    some (v131, w17)
set_option maxRecDepth 100000 in
set_option maxHeartbeats 4000000 in
theorem lp_X11_drift_17 {l : Launch} {g : Gx} {x : Cx} (C : zC g x l RX11 cX11_drift wX11_drift (rmm 3 67) 7) {r : MM} : ∀ (n : Nat) (M : MM) (x1 x2 : Int32) , f_X11_drift_L17 n M x1 x2 = some r → zJ g x r 126 [(0, .ref (ga g 31))] [] → zJ g x M 17 [(0, .ref (ga g 31)), (1, .int x1), (2, .int x2)] [] := by
  intro n
  induction n with
  | zero =>
    intro M x1 x2 h hj
    exact absurd h (by simp [f_X11_drift_L17])
  | succ n ih =>
    intro M x1 x2 h hj
    rw [f_X11_drift_L17] at h
    refine z_iload_n C dX11_drift_17 rfl ?_
    refine z_iload_n C dX11_drift_18 rfl ?_
    refine z_icmp_ge 126 C dX11_drift_19 (by decide) (fun hc => ?_) (fun hc => ?_)
    · have h := e_t hc h
      obtain rfl := Option.some.inj h
      exact z_sub [0] rfl hj
    · have h := e_f hc h
      refine z_aload_n C dX11_drift_22 rfl ?_
      refine z_get C O_31 0 rfl (fun _ h9 => hsT _ (inX11 _ h9)) (by decide) (hsT _ tw_3_175) dX11_drift_23 rfl ?_
      refine z_iconst (0 : Int32) C dX11_drift_26 (by decide) ?_
      obtain ⟨v27, h27, h⟩ := e_bd h
      refine z_iald C I_32 h27 dX11_drift_27 ?_
      refine z_bipush (16 : Int32) C dX11_drift_28 (by decide) ?_
      refine z_icmp_ge 126 C dX11_drift_30 (by decide) (fun hc => ?_) (fun hc => ?_)
      · have h := e_t hc h
        obtain rfl := Option.some.inj h
        exact z_sub [0] rfl hj
      · have h := e_f hc h
        refine z_aload_n C dX11_drift_33 rfl ?_
        obtain ⟨M34, h34, h⟩ := e_bd h
        refine z_callVv (As := []) C (c_X11_minds l g h34) rfl O_31 rfl (gcV hsT tw_4_137 cw_X11_minds) rfl rfl rfl hy_X11_minds rfl ⟨Nat.le_of_ble_eq_true rfl, Nat.le_of_ble_eq_true rfl⟩ (Nat.le_of_ble_eq_true rfl) dX11_drift_34 ?_
        refine z_aload_n C dX11_drift_37 rfl ?_
        refine z_iconst (2 : Int32) C dX11_drift_38 (by decide) ?_
        obtain ⟨s39, h39, h⟩ := e_bd h
        refine z_callVi (As := [.int (2 : Int32)]) C (c_X11_draw l g h39) rfl O_31 rfl (gcV hsT tw_4_180 cw_X11_draw) rfl rfl rfl hy_X11_draw rfl ⟨Nat.le_of_ble_eq_true rfl, Nat.le_of_ble_eq_true rfl⟩ (Nat.le_of_ble_eq_true rfl) dX11_drift_39 ?_
        refine z_istore_n [(3, .int s39.1), (0, .ref (ga g 31)), (1, .int x1), (2, .int x2)] C dX11_drift_42 (by decide) rfl ?_
        refine z_aload_n C dX11_drift_43 rfl ?_
        refine z_bipush (10 : Int32) C dX11_drift_44 (by decide) ?_
        obtain ⟨s46, h46, h⟩ := e_bd h
        refine z_callVi (As := [.int (10 : Int32)]) C (c_X11_draw l g h46) rfl O_31 rfl (gcV hsT tw_4_180 cw_X11_draw) rfl rfl rfl hy_X11_draw rfl ⟨Nat.le_of_ble_eq_true rfl, Nat.le_of_ble_eq_true rfl⟩ (Nat.le_of_ble_eq_true rfl) dX11_drift_46 ?_
        refine z_istore [(4, .int s46.1), (3, .int s39.1), (0, .ref (ga g 31)), (1, .int x1), (2, .int x2)] C dX11_drift_49 (by decide) rfl ?_
        refine z_aload_n C dX11_drift_51 rfl ?_
        refine z_aload_n C dX11_drift_52 rfl ?_
        refine z_get C O_31 0 rfl (fun _ h9 => hsT _ (inX11 _ h9)) (by decide) (hsT _ tw_3_175) dX11_drift_53 rfl ?_
        refine z_iconst (0 : Int32) C dX11_drift_56 (by decide) ?_
        obtain ⟨v57, h57, h⟩ := e_bd h
        refine z_iald C I_32 h57 dX11_drift_57 ?_
        refine z_iconst (1 : Int32) C dX11_drift_58 (by decide) ?_
        refine z_iadd C dX11_drift_59 ?_
        obtain ⟨s60, h60, h⟩ := e_bd h
        refine z_callVi (As := [.int (v57 + (1 : Int32))]) C (c_X11_draw l g h60) rfl O_31 rfl (gcV hsT tw_4_180 cw_X11_draw) rfl rfl rfl hy_X11_draw rfl ⟨Nat.le_of_ble_eq_true rfl, Nat.le_of_ble_eq_true rfl⟩ (Nat.le_of_ble_eq_true rfl) dX11_drift_60 ?_
        refine z_iconst (1 : Int32) C dX11_drift_63 (by decide) ?_
        refine z_isub C dX11_drift_64 ?_
        refine z_istore [(5, .int (s60.1 - (1 : Int32))), (4, .int s46.1), (3, .int s39.1), (0, .ref (ga g 31)), (1, .int x1), (2, .int x2)] C dX11_drift_65 (by decide) rfl ?_
        refine z_aload_n C dX11_drift_67 rfl ?_
        refine z_aload_n C dX11_drift_68 rfl ?_
        refine z_get C O_31 0 rfl (fun _ h9 => hsT _ (inX11 _ h9)) (by decide) (hsT _ tw_3_175) dX11_drift_69 rfl ?_
        refine z_iconst (0 : Int32) C dX11_drift_72 (by decide) ?_
        obtain ⟨v73, h73, h⟩ := e_bd h
        refine z_iald C I_32 h73 dX11_drift_73 ?_
        refine z_iconst (1 : Int32) C dX11_drift_74 (by decide) ?_
        refine z_iadd C dX11_drift_75 ?_
        obtain ⟨s76, h76, h⟩ := e_bd h
        refine z_callVi (As := [.int (v73 + (1 : Int32))]) C (c_X11_draw l g h76) rfl O_31 rfl (gcV hsT tw_4_180 cw_X11_draw) rfl rfl rfl hy_X11_draw rfl ⟨Nat.le_of_ble_eq_true rfl, Nat.le_of_ble_eq_true rfl⟩ (Nat.le_of_ble_eq_true rfl) dX11_drift_76 ?_
        refine z_iconst (1 : Int32) C dX11_drift_79 (by decide) ?_
        refine z_isub C dX11_drift_80 ?_
        refine z_istore [(6, .int (s76.1 - (1 : Int32))), (5, .int (s60.1 - (1 : Int32))), (4, .int s46.1), (3, .int s39.1), (0, .ref (ga g 31)), (1, .int x1), (2, .int x2)] C dX11_drift_81 (by decide) rfl ?_
        refine z_aload_n C dX11_drift_83 rfl ?_
        refine z_iload_n C dX11_drift_84 rfl ?_
        refine z_iload C dX11_drift_85 rfl ?_
        refine z_aload_n C dX11_drift_87 rfl ?_
        refine z_iload C dX11_drift_88 rfl ?_
        obtain ⟨v90, h90, h⟩ := e_bd h
        refine z_callVi (As := [.int (s60.1 - (1 : Int32))]) C (c_X11_isMan l g h90) rfl O_31 rfl (gcV hsT tw_4_117 cw_X11_isMan) rfl rfl rfl hy_X11_isMan rfl ⟨Nat.le_of_ble_eq_true rfl, Nat.le_of_ble_eq_true rfl⟩ (Nat.le_of_ble_eq_true rfl) dX11_drift_90 ?_
        obtain ⟨j93, h93, h⟩ := e_bd h
        have hj93 : zJ g x s76.2 102 [(0, .ref (ga g 31)), (1, .int x1), (2, .int x2), (6, .int (s76.1 - (1 : Int32)))] [.int j93, .int s46.1, .int s39.1, .ref (ga g 31)] := by
          refine z_aload_n C dX11_drift_102 rfl ?_
          refine z_iload C dX11_drift_103 rfl ?_
          obtain ⟨v105, h105, h⟩ := e_bd h
          refine z_callVi (As := [.int (s76.1 - (1 : Int32))]) C (c_X11_isWoman l g h105) rfl O_31 rfl (gcV hsT tw_4_2 cw_X11_isWoman) rfl rfl rfl hy_X11_isWoman rfl ⟨Nat.le_of_ble_eq_true rfl, Nat.le_of_ble_eq_true rfl⟩ (Nat.le_of_ble_eq_true rfl) dX11_drift_105 ?_
          obtain ⟨j108, h108, h⟩ := e_bd h
          have hj108 : zJ g x s76.2 117 [(0, .ref (ga g 31)), (1, .int x1), (2, .int x2)] [.int j108, .int j93, .int s46.1, .int s39.1, .ref (ga g 31)] := by
            obtain ⟨M117, h117, h⟩ := e_bd h
            refine z_callVv (As := [.int s39.1, .int s46.1, .int j93, .int j108]) C (c_X11_comes l g h117) rfl O_31 rfl (gcV hsT tw_4_145 cw_X11_comes) rfl rfl rfl hy_X11_comes rfl ⟨Nat.le_of_ble_eq_true rfl, Nat.le_of_ble_eq_true rfl⟩ (Nat.le_of_ble_eq_true rfl) dX11_drift_117 ?_
            refine z_iinc (v := (x2 + (1 : Int32))) [(2, .int (x2 + (1 : Int32))), (0, .ref (ga g 31)), (1, .int x1)] C dX11_drift_120 rfl rfl (by decide) rfl ?_
            refine z_goto 17 C dX11_drift_123 (by decide) ?_
            refine z_sub [1, 2, 0] rfl ?_
            exact ih _ _ _ h hj
          have h := h108
          refine z_if_eq 116 C dX11_drift_108 (by decide) (fun hc => ?_) (fun hc => ?_)
          · have h := e_t hc h
            refine z_iconst (-1 : Int32) C dX11_drift_116 (by decide) ?_
            obtain rfl := Option.some.inj h
            exact z_sub [0, 1, 2] rfl hj108
          · have h := e_f hc h
            refine z_iload C dX11_drift_111 rfl ?_
            refine z_goto 117 C dX11_drift_113 (by decide) ?_
            obtain rfl := Option.some.inj h
            exact z_sub [0, 1, 2] rfl hj108
        have h := h93
        refine z_if_eq 101 C dX11_drift_93 (by decide) (fun hc => ?_) (fun hc => ?_)
        · have h := e_t hc h
          refine z_iconst (-1 : Int32) C dX11_drift_101 (by decide) ?_
          obtain rfl := Option.some.inj h
          exact z_sub [4, 5, 6, 0] rfl hj93
        · have h := e_f hc h
          refine z_iload C dX11_drift_96 rfl ?_
          refine z_goto 102 C dX11_drift_98 (by decide) ?_
          obtain rfl := Option.some.inj h
          exact z_sub [4, 5, 6, 0] rfl hj93
set_option maxRecDepth 100000 in
set_option maxHeartbeats 4000000 in
theorem c_X11_drift (l : Launch) (g : Gx) {M : MM} {x1 : Int32} {r : Int32 × MM} (h : f_X11_drift M x1 = some r) : zMi l yX11_drift wX11_drift (rmm 3 67) [.ref (ga g 31), .int x1] g M r.1 r.2 := by
  refine zMi_of .int (by decide) rfl (Nat.le_of_ble_eq_true rfl) rfl rfl ?_
  intro x C E
  show zJ g x M 0 [(0, .ref (ga g 31)), (1, .int x1)] []
  unfold f_X11_drift at h
  refine z_iload_n C dX11_drift_0 rfl ?_
  refine z_i2l C dX11_drift_1 ?_
  refine z_lconst (1 : Int64) C dX11_drift_2 (by decide) ?_
  refine z_ldc2 (v := (16 : Int64)) C (hsT _ tw_4_179) dX11_drift_3 ?_
  obtain ⟨v6, h6, h⟩ := e_bd h
  refine z_callSi (As := [.long x1.toInt64, .long (1 : Int64), .long (16 : Int64)]) C (c_X11_in l g h6) rfl (gcS hsT tw_4_10 cw_X11_in) rfl rfl rfl hy_X11_in rfl ⟨Nat.le_of_ble_eq_true rfl, Nat.le_of_ble_eq_true rfl⟩ (Nat.le_of_ble_eq_true rfl) dX11_drift_6 ?_
  refine z_if_ne 15 C dX11_drift_9 (by decide) (fun hc => ?_) (fun hc => ?_)
  · have h := e_f hc h
    refine z_iconst (0 : Int32) C dX11_drift_15 (by decide) ?_
    refine z_istore_n [(2, .int (0 : Int32)), (0, .ref (ga g 31)), (1, .int x1)] C dX11_drift_16 (by decide) rfl ?_
    obtain ⟨w17, h17, h⟩ := e_bd h
    refine z_sub [1, 2, 0] rfl ?_
    refine lp_X11_drift_17 C _ _ _ _ h17 ?_
    refine z_aload_n C dX11_drift_126 rfl ?_
    refine z_get C O_31 0 rfl (fun _ h9 => hsT _ (inX11 _ h9)) (by decide) (hsT _ tw_3_175) dX11_drift_127 rfl ?_
    refine z_iconst (0 : Int32) C dX11_drift_130 (by decide) ?_
    obtain ⟨v131, h131, h⟩ := e_bd h
    refine z_iald C I_32 h131 dX11_drift_131 ?_
    obtain rfl := Option.some.inj h
    exact z_iret C E dX11_drift_132
  · have h := e_t hc h
    refine z_ldc (v := (-1000000002 : Int32)) C (hsT _ tw_4_85) dX11_drift_12 ?_
    obtain rfl := Option.some.inj h
    exact z_iret C E dX11_drift_14
theorem hy_X11_undo : yX11_undo.cls = RX11 ∧ yX11_undo.cls ≠ "java/lang/invoke/MethodHandle" ∧ yX11_undo.cls ≠ "java/lang/invoke/VarHandle" ∧ (parseMethodDescriptor yX11_undo.desc).map (fun d => d.parameters.length) = some 1 := by decide +kernel
def wX11_undo : List Cond := Cond.code yX11_undo cX11_undo 2 (some .int) :: TB
def f_X11_undo (M : MM) (x1 : Int32) : Option (Int32 × MM) :=
  (f_X11_in M x1.toInt64 (1 : Int64) (20 : Int64)).bind fun (v6 : Int32) =>
  if v6 = 0 then
    some ((-1000000002 : Int32), M)
  else
    if x1 ≤ (M 31 3) then
      (z_stf M 31 3 ((M 31 3) - x1)).bind fun (M33 : MM) =>
      (f_X11_copy M33 ((423 : Int32) + ((141 : Int32) * (M33 31 3))) (0 : Int32)).bind fun (M50 : MM) =>
      (z_ld M50 32 3243 (0 : Int32)).bind fun (v58 : Int32) =>
      some (v58, M50)
    else
      some ((-1000000003 : Int32), M)
set_option maxRecDepth 100000 in
set_option maxHeartbeats 4000000 in
theorem c_X11_undo (l : Launch) (g : Gx) {M : MM} {x1 : Int32} {r : Int32 × MM} (h : f_X11_undo M x1 = some r) : zMi l yX11_undo wX11_undo (rmm 1 25) [.ref (ga g 31), .int x1] g M r.1 r.2 := by
  refine zMi_of .int (by decide) rfl (Nat.le_of_ble_eq_true rfl) rfl rfl ?_
  intro x C E
  show zJ g x M 0 [(0, .ref (ga g 31)), (1, .int x1)] []
  unfold f_X11_undo at h
  refine z_iload_n C dX11_undo_0 rfl ?_
  refine z_i2l C dX11_undo_1 ?_
  refine z_lconst (1 : Int64) C dX11_undo_2 (by decide) ?_
  refine z_ldc2 (v := (20 : Int64)) C (hsT _ tw_4_192) dX11_undo_3 ?_
  obtain ⟨v6, h6, h⟩ := e_bd h
  refine z_callSi (As := [.long x1.toInt64, .long (1 : Int64), .long (20 : Int64)]) C (c_X11_in l g h6) rfl (gcS hsT tw_4_10 cw_X11_in) rfl rfl rfl hy_X11_in rfl ⟨Nat.le_of_ble_eq_true rfl, Nat.le_of_ble_eq_true rfl⟩ (Nat.le_of_ble_eq_true rfl) dX11_undo_6 ?_
  refine z_if_ne 15 C dX11_undo_9 (by decide) (fun hc => ?_) (fun hc => ?_)
  · have h := e_f hc h
    refine z_iload_n C dX11_undo_15 rfl ?_
    refine z_aload_n C dX11_undo_16 rfl ?_
    refine z_get C O_31 3 rfl (fun _ h9 => hsT _ (inX11 _ h9)) (by decide) (hsT _ tw_3_178) dX11_undo_17 rfl ?_
    refine z_icmp_le 26 C dX11_undo_20 (by decide) (fun hc => ?_) (fun hc => ?_)
    · have h := e_t hc h
      refine z_aload_n C dX11_undo_26 rfl ?_
      refine z_dup C dX11_undo_27 rfl ?_
      refine z_get C O_31 3 rfl (fun _ h9 => hsT _ (inX11 _ h9)) (by decide) (hsT _ tw_3_178) dX11_undo_28 rfl ?_
      refine z_iload_n C dX11_undo_31 rfl ?_
      refine z_isub C dX11_undo_32 ?_
      obtain ⟨M33, h33, h⟩ := e_bd h
      refine z_puti tyX11 C O_31 3 O_31_3 rfl (fun _ h9 => hsT _ (inX11 _ h9)) tyX11_ok nmX11 (by decide) rfl (Nat.le_of_ble_eq_true rfl) (hsT _ tw_3_178) dX11_undo_33 rfl h33 ?_
      refine z_aload_n C dX11_undo_36 rfl ?_
      refine z_sipush (423 : Int32) C dX11_undo_37 (by decide) ?_
      refine z_sipush (141 : Int32) C dX11_undo_40 (by decide) ?_
      refine z_aload_n C dX11_undo_43 rfl ?_
      refine z_get C O_31 3 rfl (fun _ h9 => hsT _ (inX11 _ h9)) (by decide) (hsT _ tw_3_178) dX11_undo_44 rfl ?_
      refine z_imul C dX11_undo_47 ?_
      refine z_iadd C dX11_undo_48 ?_
      refine z_iconst (0 : Int32) C dX11_undo_49 (by decide) ?_
      obtain ⟨M50, h50, h⟩ := e_bd h
      refine z_callVv (As := [.int ((423 : Int32) + ((141 : Int32) * (M33 31 3))), .int (0 : Int32)]) C (c_X11_copy l g h50) rfl O_31 rfl (gcV hsT tw_4_141 cw_X11_copy) rfl rfl rfl hy_X11_copy rfl ⟨Nat.le_of_ble_eq_true rfl, Nat.le_of_ble_eq_true rfl⟩ (Nat.le_of_ble_eq_true rfl) dX11_undo_50 ?_
      refine z_aload_n C dX11_undo_53 rfl ?_
      refine z_get C O_31 0 rfl (fun _ h9 => hsT _ (inX11 _ h9)) (by decide) (hsT _ tw_3_175) dX11_undo_54 rfl ?_
      refine z_iconst (0 : Int32) C dX11_undo_57 (by decide) ?_
      obtain ⟨v58, h58, h⟩ := e_bd h
      refine z_iald C I_32 h58 dX11_undo_58 ?_
      obtain rfl := Option.some.inj h
      exact z_iret C E dX11_undo_59
    · have h := e_f hc h
      refine z_ldc (v := (-1000000003 : Int32)) C (hsT _ tw_4_121) dX11_undo_23 ?_
      obtain rfl := Option.some.inj h
      exact z_iret C E dX11_undo_25
  · have h := e_t hc h
    refine z_ldc (v := (-1000000002 : Int32)) C (hsT _ tw_4_85) dX11_undo_12 ?_
    obtain rfl := Option.some.inj h
    exact z_iret C E dX11_undo_14
theorem hy_X11_write : yX11_write.cls = RX11 ∧ yX11_write.cls ≠ "java/lang/invoke/MethodHandle" ∧ yX11_write.cls ≠ "java/lang/invoke/VarHandle" ∧ (parseMethodDescriptor yX11_write.desc).map (fun d => d.parameters.length) = some 3 := by decide +kernel
def wX11_write : List Cond := Cond.code yX11_write cX11_write 4 (some .int) :: TB
def f_X11_write (M : MM) (x1 : Int32) (x2 : Int32) (x3 : Int32) : Option (Int32 × MM) :=
  (f_X11_isOne M x1).bind fun (v2 : Int32) =>
  if v2 = 0 then
    some ((-1000000001 : Int32), M)
  else
    (f_X11_in M x2.toInt64 (0 : Int64) (9 : Int64)).bind fun (v17 : Int32) =>
    if v17 = 0 then
      some ((-1000000002 : Int32), M)
    else
      (f_X11_in M x3.toInt64 (0 : Int64) (9 : Int64)).bind fun (v29 : Int32) =>
      if v29 = 0 then
        some ((-1000000002 : Int32), M)
      else
        if (M 31 5) = (20 : Int32) then
          some ((-1000000004 : Int32), M)
        else
          (z_sto M 35 20 (M 31 5) x1).bind fun (M59 : MM) =>
          (z_sto M59 36 20 (M59 31 5) x2).bind fun (M69 : MM) =>
          (z_sto M69 37 20 (M69 31 5) x3).bind fun (M79 : MM) =>
          (z_stf M79 31 5 ((M79 31 5) + (1 : Int32))).bind fun (M87 : MM) =>
          some ((M87 31 5), M87)
set_option maxRecDepth 100000 in
set_option maxHeartbeats 4000000 in
theorem c_X11_write (l : Launch) (g : Gx) {M : MM} {x1 : Int32} {x2 : Int32} {x3 : Int32} {r : Int32 × MM} (h : f_X11_write M x1 x2 x3 = some r) : zMi l yX11_write wX11_write (rmm 2 46) [.ref (ga g 31), .int x1, .int x2, .int x3] g M r.1 r.2 := by
  refine zMi_of .int (by decide) rfl (Nat.le_of_ble_eq_true rfl) rfl rfl ?_
  intro x C E
  show zJ g x M 0 [(0, .ref (ga g 31)), (1, .int x1), (2, .int x2), (3, .int x3)] []
  unfold f_X11_write at h
  refine z_aload_n C dX11_write_0 rfl ?_
  refine z_iload_n C dX11_write_1 rfl ?_
  obtain ⟨v2, h2, h⟩ := e_bd h
  refine z_callVi (As := [.int x1]) C (c_X11_isOne l g h2) rfl O_31 rfl (gcV hsT tw_4_6 cw_X11_isOne) rfl rfl rfl hy_X11_isOne rfl ⟨Nat.le_of_ble_eq_true rfl, Nat.le_of_ble_eq_true rfl⟩ (Nat.le_of_ble_eq_true rfl) dX11_write_2 ?_
  refine z_if_ne 11 C dX11_write_5 (by decide) (fun hc => ?_) (fun hc => ?_)
  · have h := e_f hc h
    refine z_iload_n C dX11_write_11 rfl ?_
    refine z_i2l C dX11_write_12 ?_
    refine z_lconst (0 : Int64) C dX11_write_13 (by decide) ?_
    refine z_ldc2 (v := (9 : Int64)) C (hsT _ tw_4_135) dX11_write_14 ?_
    obtain ⟨v17, h17, h⟩ := e_bd h
    refine z_callSi (As := [.long x2.toInt64, .long (0 : Int64), .long (9 : Int64)]) C (c_X11_in l g h17) rfl (gcS hsT tw_4_10 cw_X11_in) rfl rfl rfl hy_X11_in rfl ⟨Nat.le_of_ble_eq_true rfl, Nat.le_of_ble_eq_true rfl⟩ (Nat.le_of_ble_eq_true rfl) dX11_write_17 ?_
    refine z_if_eq 35 C dX11_write_20 (by decide) (fun hc => ?_) (fun hc => ?_)
    · have h := e_t hc h
      refine z_ldc (v := (-1000000002 : Int32)) C (hsT _ tw_4_85) dX11_write_35 ?_
      obtain rfl := Option.some.inj h
      exact z_iret C E dX11_write_37
    · have h := e_f hc h
      refine z_iload_n C dX11_write_23 rfl ?_
      refine z_i2l C dX11_write_24 ?_
      refine z_lconst (0 : Int64) C dX11_write_25 (by decide) ?_
      refine z_ldc2 (v := (9 : Int64)) C (hsT _ tw_4_135) dX11_write_26 ?_
      obtain ⟨v29, h29, h⟩ := e_bd h
      refine z_callSi (As := [.long x3.toInt64, .long (0 : Int64), .long (9 : Int64)]) C (c_X11_in l g h29) rfl (gcS hsT tw_4_10 cw_X11_in) rfl rfl rfl hy_X11_in rfl ⟨Nat.le_of_ble_eq_true rfl, Nat.le_of_ble_eq_true rfl⟩ (Nat.le_of_ble_eq_true rfl) dX11_write_29 ?_
      refine z_if_ne 38 C dX11_write_32 (by decide) (fun hc => ?_) (fun hc => ?_)
      · have h := e_f hc h
        refine z_aload_n C dX11_write_38 rfl ?_
        refine z_get C O_31 5 rfl (fun _ h9 => hsT _ (inX11 _ h9)) (by decide) (hsT _ tw_3_180) dX11_write_39 rfl ?_
        refine z_bipush (20 : Int32) C dX11_write_42 (by decide) ?_
        refine z_icmp_ne 50 C dX11_write_44 (by decide) (fun hc => ?_) (fun hc => ?_)
        · have h := e_f hc h
          refine z_aload_n C dX11_write_50 rfl ?_
          refine z_get C O_31 6 rfl (fun _ h9 => hsT _ (inX11 _ h9)) (by decide) (hsT _ tw_3_181) dX11_write_51 rfl ?_
          refine z_aload_n C dX11_write_54 rfl ?_
          refine z_get C O_31 5 rfl (fun _ h9 => hsT _ (inX11 _ h9)) (by decide) (hsT _ tw_3_180) dX11_write_55 rfl ?_
          refine z_iload_n C dX11_write_58 rfl ?_
          obtain ⟨M59, h59, h⟩ := e_bd h
          refine z_iast C I_35 h59 dX11_write_59 ?_
          refine z_aload_n C dX11_write_60 rfl ?_
          refine z_get C O_31 7 rfl (fun _ h9 => hsT _ (inX11 _ h9)) (by decide) (hsT _ tw_3_182) dX11_write_61 rfl ?_
          refine z_aload_n C dX11_write_64 rfl ?_
          refine z_get C O_31 5 rfl (fun _ h9 => hsT _ (inX11 _ h9)) (by decide) (hsT _ tw_3_180) dX11_write_65 rfl ?_
          refine z_iload_n C dX11_write_68 rfl ?_
          obtain ⟨M69, h69, h⟩ := e_bd h
          refine z_iast C I_36 h69 dX11_write_69 ?_
          refine z_aload_n C dX11_write_70 rfl ?_
          refine z_get C O_31 8 rfl (fun _ h9 => hsT _ (inX11 _ h9)) (by decide) (hsT _ tw_3_183) dX11_write_71 rfl ?_
          refine z_aload_n C dX11_write_74 rfl ?_
          refine z_get C O_31 5 rfl (fun _ h9 => hsT _ (inX11 _ h9)) (by decide) (hsT _ tw_3_180) dX11_write_75 rfl ?_
          refine z_iload_n C dX11_write_78 rfl ?_
          obtain ⟨M79, h79, h⟩ := e_bd h
          refine z_iast C I_37 h79 dX11_write_79 ?_
          refine z_aload_n C dX11_write_80 rfl ?_
          refine z_dup C dX11_write_81 rfl ?_
          refine z_get C O_31 5 rfl (fun _ h9 => hsT _ (inX11 _ h9)) (by decide) (hsT _ tw_3_180) dX11_write_82 rfl ?_
          refine z_iconst (1 : Int32) C dX11_write_85 (by decide) ?_
          refine z_iadd C dX11_write_86 ?_
          obtain ⟨M87, h87, h⟩ := e_bd h
          refine z_puti tyX11 C O_31 5 O_31_5 rfl (fun _ h9 => hsT _ (inX11 _ h9)) tyX11_ok nmX11 (by decide) rfl (Nat.le_of_ble_eq_true rfl) (hsT _ tw_3_180) dX11_write_87 rfl h87 ?_
          refine z_aload_n C dX11_write_90 rfl ?_
          refine z_get C O_31 5 rfl (fun _ h9 => hsT _ (inX11 _ h9)) (by decide) (hsT _ tw_3_180) dX11_write_91 rfl ?_
          obtain rfl := Option.some.inj h
          exact z_iret C E dX11_write_94
        · have h := e_t hc h
          refine z_ldc (v := (-1000000004 : Int32)) C (hsT _ tw_4_136) dX11_write_47 ?_
          obtain rfl := Option.some.inj h
          exact z_iret C E dX11_write_49
      · have h := e_t hc h
        refine z_ldc (v := (-1000000002 : Int32)) C (hsT _ tw_4_85) dX11_write_35 ?_
        obtain rfl := Option.some.inj h
        exact z_iret C E dX11_write_37
  · have h := e_t hc h
    refine z_ldc (v := (-1000000001 : Int32)) C (hsT _ tw_4_90) dX11_write_8 ?_
    obtain rfl := Option.some.inj h
    exact z_iret C E dX11_write_10
theorem hy_X11_tear : yX11_tear.cls = RX11 ∧ yX11_tear.cls ≠ "java/lang/invoke/MethodHandle" ∧ yX11_tear.cls ≠ "java/lang/invoke/VarHandle" ∧ (parseMethodDescriptor yX11_tear.desc).map (fun d => d.parameters.length) = some 0 := by decide +kernel
def wX11_tear : List Cond := Cond.code yX11_tear cX11_tear 2 (some .int) :: TB
def f_X11_tear (M : MM)  : Option (Int32 × MM) :=
  (z_stf M 31 5 (0 : Int32)).bind fun (M7 : MM) =>
  some ((M 31 5), M7)
set_option maxRecDepth 100000 in
set_option maxHeartbeats 4000000 in
theorem c_X11_tear (l : Launch) (g : Gx) {M : MM}  {r : Int32 × MM} (h : f_X11_tear M  = some r) : zMi l yX11_tear wX11_tear (rmm 0 0) [.ref (ga g 31)] g M r.1 r.2 := by
  refine zMi_of .int (by decide) rfl (Nat.le_of_ble_eq_true rfl) rfl rfl ?_
  intro x C E
  show zJ g x M 0 [(0, .ref (ga g 31))] []
  unfold f_X11_tear at h
  refine z_aload_n C dX11_tear_0 rfl ?_
  refine z_get C O_31 5 rfl (fun _ h9 => hsT _ (inX11 _ h9)) (by decide) (hsT _ tw_3_180) dX11_tear_1 rfl ?_
  refine z_istore_n [(1, .int (M 31 5)), (0, .ref (ga g 31))] C dX11_tear_4 (by decide) rfl ?_
  refine z_aload_n C dX11_tear_5 rfl ?_
  refine z_iconst (0 : Int32) C dX11_tear_6 (by decide) ?_
  obtain ⟨M7, h7, h⟩ := e_bd h
  refine z_puti tyX11 C O_31 5 O_31_5 rfl (fun _ h9 => hsT _ (inX11 _ h9)) tyX11_ok nmX11 (by decide) rfl (Nat.le_of_ble_eq_true rfl) (hsT _ tw_3_180) dX11_tear_7 rfl h7 ?_
  refine z_iload_n C dX11_tear_10 rfl ?_
  obtain rfl := Option.some.inj h
  exact z_iret C E dX11_tear_11
theorem hy_X11_seed : yX11_seed.cls = RX11 ∧ yX11_seed.cls ≠ "java/lang/invoke/MethodHandle" ∧ yX11_seed.cls ≠ "java/lang/invoke/VarHandle" ∧ (parseMethodDescriptor yX11_seed.desc).map (fun d => d.parameters.length) = some 1 := by decide +kernel
def wX11_seed : List Cond := Cond.code yX11_seed cX11_seed 3 (some .int) :: TB
def f_X11_seed (M : MM) (x1 : Int32) : Option (Int32 × MM) :=
  if 0 ≤ x1 then
    (z_stf M 31 4 x1).bind fun (M14 : MM) =>
    some ((M 31 4), M14)
  else
    some ((-1000000002 : Int32), M)
set_option maxRecDepth 100000 in
set_option maxHeartbeats 4000000 in
theorem c_X11_seed (l : Launch) (g : Gx) {M : MM} {x1 : Int32} {r : Int32 × MM} (h : f_X11_seed M x1 = some r) : zMi l yX11_seed wX11_seed (rmm 0 0) [.ref (ga g 31), .int x1] g M r.1 r.2 := by
  refine zMi_of .int (by decide) rfl (Nat.le_of_ble_eq_true rfl) rfl rfl ?_
  intro x C E
  show zJ g x M 0 [(0, .ref (ga g 31)), (1, .int x1)] []
  unfold f_X11_seed at h
  refine z_iload_n C dX11_seed_0 rfl ?_
  refine z_if_ge 7 C dX11_seed_1 (by decide) (fun hc => ?_) (fun hc => ?_)
  · have h := e_t hc h
    refine z_aload_n C dX11_seed_7 rfl ?_
    refine z_get C O_31 4 rfl (fun _ h9 => hsT _ (inX11 _ h9)) (by decide) (hsT _ tw_3_179) dX11_seed_8 rfl ?_
    refine z_istore_n [(2, .int (M 31 4)), (0, .ref (ga g 31)), (1, .int x1)] C dX11_seed_11 (by decide) rfl ?_
    refine z_aload_n C dX11_seed_12 rfl ?_
    refine z_iload_n C dX11_seed_13 rfl ?_
    obtain ⟨M14, h14, h⟩ := e_bd h
    refine z_puti tyX11 C O_31 4 O_31_4 rfl (fun _ h9 => hsT _ (inX11 _ h9)) tyX11_ok nmX11 (by decide) rfl (Nat.le_of_ble_eq_true rfl) (hsT _ tw_3_179) dX11_seed_14 rfl h14 ?_
    refine z_iload_n C dX11_seed_17 rfl ?_
    obtain rfl := Option.some.inj h
    exact z_iret C E dX11_seed_18
  · have h := e_f hc h
    refine z_ldc (v := (-1000000002 : Int32)) C (hsT _ tw_4_85) dX11_seed_4 ?_
    obtain rfl := Option.some.inj h
    exact z_iret C E dX11_seed_6
theorem hy_X11_keep : yX11_keep.cls = RX11 ∧ yX11_keep.cls ≠ "java/lang/invoke/MethodHandle" ∧ yX11_keep.cls ≠ "java/lang/invoke/VarHandle" ∧ (parseMethodDescriptor yX11_keep.desc).map (fun d => d.parameters.length) = some 1 := by decide +kernel
def wX11_keep : List Cond := Cond.code yX11_keep cX11_keep 2 (some .int) :: TB
def f_X11_keep (M : MM) (x1 : Int32) : Option (Int32 × MM) :=
  (f_X11_in M x1.toInt64 (0 : Int64) (1 : Int64)).bind fun (v4 : Int32) =>
  if v4 = 0 then
    some ((-1000000001 : Int32), M)
  else
    (f_X11_copy M (0 : Int32) ((141 : Int32) + ((141 : Int32) * x1))).bind fun (M24 : MM) =>
    (z_sto M24 33 2 x1 (M24 31 4)).bind fun (M36 : MM) =>
    (z_stz M36 34 2 x1 (1 : Int32)).bind fun (M43 : MM) =>
    (z_stf M43 31 3 (0 : Int32)).bind fun (M46 : MM) =>
    some ((1 : Int32), M46)
set_option maxRecDepth 100000 in
set_option maxHeartbeats 4000000 in
theorem c_X11_keep (l : Launch) (g : Gx) {M : MM} {x1 : Int32} {r : Int32 × MM} (h : f_X11_keep M x1 = some r) : zMi l yX11_keep wX11_keep (rmm 1 25) [.ref (ga g 31), .int x1] g M r.1 r.2 := by
  refine zMi_of .int (by decide) rfl (Nat.le_of_ble_eq_true rfl) rfl rfl ?_
  intro x C E
  show zJ g x M 0 [(0, .ref (ga g 31)), (1, .int x1)] []
  unfold f_X11_keep at h
  refine z_iload_n C dX11_keep_0 rfl ?_
  refine z_i2l C dX11_keep_1 ?_
  refine z_lconst (0 : Int64) C dX11_keep_2 (by decide) ?_
  refine z_lconst (1 : Int64) C dX11_keep_3 (by decide) ?_
  obtain ⟨v4, h4, h⟩ := e_bd h
  refine z_callSi (As := [.long x1.toInt64, .long (0 : Int64), .long (1 : Int64)]) C (c_X11_in l g h4) rfl (gcS hsT tw_4_10 cw_X11_in) rfl rfl rfl hy_X11_in rfl ⟨Nat.le_of_ble_eq_true rfl, Nat.le_of_ble_eq_true rfl⟩ (Nat.le_of_ble_eq_true rfl) dX11_keep_4 ?_
  refine z_if_ne 13 C dX11_keep_7 (by decide) (fun hc => ?_) (fun hc => ?_)
  · have h := e_f hc h
    refine z_aload_n C dX11_keep_13 rfl ?_
    refine z_iconst (0 : Int32) C dX11_keep_14 (by decide) ?_
    refine z_sipush (141 : Int32) C dX11_keep_15 (by decide) ?_
    refine z_sipush (141 : Int32) C dX11_keep_18 (by decide) ?_
    refine z_iload_n C dX11_keep_21 rfl ?_
    refine z_imul C dX11_keep_22 ?_
    refine z_iadd C dX11_keep_23 ?_
    obtain ⟨M24, h24, h⟩ := e_bd h
    refine z_callVv (As := [.int (0 : Int32), .int ((141 : Int32) + ((141 : Int32) * x1))]) C (c_X11_copy l g h24) rfl O_31 rfl (gcV hsT tw_4_141 cw_X11_copy) rfl rfl rfl hy_X11_copy rfl ⟨Nat.le_of_ble_eq_true rfl, Nat.le_of_ble_eq_true rfl⟩ (Nat.le_of_ble_eq_true rfl) dX11_keep_24 ?_
    refine z_aload_n C dX11_keep_27 rfl ?_
    refine z_get C O_31 1 rfl (fun _ h9 => hsT _ (inX11 _ h9)) (by decide) (hsT _ tw_3_176) dX11_keep_28 rfl ?_
    refine z_iload_n C dX11_keep_31 rfl ?_
    refine z_aload_n C dX11_keep_32 rfl ?_
    refine z_get C O_31 4 rfl (fun _ h9 => hsT _ (inX11 _ h9)) (by decide) (hsT _ tw_3_179) dX11_keep_33 rfl ?_
    obtain ⟨M36, h36, h⟩ := e_bd h
    refine z_iast C I_33 h36 dX11_keep_36 ?_
    refine z_aload_n C dX11_keep_37 rfl ?_
    refine z_get C O_31 2 rfl (fun _ h9 => hsT _ (inX11 _ h9)) (by decide) (hsT _ tw_3_177) dX11_keep_38 rfl ?_
    refine z_iload_n C dX11_keep_41 rfl ?_
    refine z_iconst (1 : Int32) C dX11_keep_42 (by decide) ?_
    obtain ⟨M43, h43, h⟩ := e_bd h
    refine z_zast C Z_34 h43 dX11_keep_43 ?_
    refine z_aload_n C dX11_keep_44 rfl ?_
    refine z_iconst (0 : Int32) C dX11_keep_45 (by decide) ?_
    obtain ⟨M46, h46, h⟩ := e_bd h
    refine z_puti tyX11 C O_31 3 O_31_3 rfl (fun _ h9 => hsT _ (inX11 _ h9)) tyX11_ok nmX11 (by decide) rfl (Nat.le_of_ble_eq_true rfl) (hsT _ tw_3_178) dX11_keep_46 rfl h46 ?_
    refine z_iconst (1 : Int32) C dX11_keep_49 (by decide) ?_
    obtain rfl := Option.some.inj h
    exact z_iret C E dX11_keep_50
  · have h := e_t hc h
    refine z_ldc (v := (-1000000001 : Int32)) C (hsT _ tw_4_90) dX11_keep_10 ?_
    obtain rfl := Option.some.inj h
    exact z_iret C E dX11_keep_12
theorem hy_X11_goBack : yX11_goBack.cls = RX11 ∧ yX11_goBack.cls ≠ "java/lang/invoke/MethodHandle" ∧ yX11_goBack.cls ≠ "java/lang/invoke/VarHandle" ∧ (parseMethodDescriptor yX11_goBack.desc).map (fun d => d.parameters.length) = some 1 := by decide +kernel
def wX11_goBack : List Cond := Cond.code yX11_goBack cX11_goBack 2 (some .int) :: TB
def f_X11_goBack (M : MM) (x1 : Int32) : Option (Int32 × MM) :=
  (f_X11_in M x1.toInt64 (0 : Int64) (1 : Int64)).bind fun (v4 : Int32) =>
  if v4 = 0 then
    some ((-1000000001 : Int32), M)
  else
    (z_ld M 34 2 x1).bind fun (v18 : Int32) =>
    if v18 = 0 then
      some ((-1000000003 : Int32), M)
    else
      (f_X11_copy M ((141 : Int32) + ((141 : Int32) * x1)) (0 : Int32)).bind fun (M36 : MM) =>
      (z_ld M36 33 2 x1).bind fun (v45 : Int32) =>
      (z_stf M36 31 4 v45).bind fun (M46 : MM) =>
      (z_stf M46 31 3 (0 : Int32)).bind fun (M51 : MM) =>
      some ((1 : Int32), M51)
set_option maxRecDepth 100000 in
set_option maxHeartbeats 4000000 in
theorem c_X11_goBack (l : Launch) (g : Gx) {M : MM} {x1 : Int32} {r : Int32 × MM} (h : f_X11_goBack M x1 = some r) : zMi l yX11_goBack wX11_goBack (rmm 1 25) [.ref (ga g 31), .int x1] g M r.1 r.2 := by
  refine zMi_of .int (by decide) rfl (Nat.le_of_ble_eq_true rfl) rfl rfl ?_
  intro x C E
  show zJ g x M 0 [(0, .ref (ga g 31)), (1, .int x1)] []
  unfold f_X11_goBack at h
  refine z_iload_n C dX11_goBack_0 rfl ?_
  refine z_i2l C dX11_goBack_1 ?_
  refine z_lconst (0 : Int64) C dX11_goBack_2 (by decide) ?_
  refine z_lconst (1 : Int64) C dX11_goBack_3 (by decide) ?_
  obtain ⟨v4, h4, h⟩ := e_bd h
  refine z_callSi (As := [.long x1.toInt64, .long (0 : Int64), .long (1 : Int64)]) C (c_X11_in l g h4) rfl (gcS hsT tw_4_10 cw_X11_in) rfl rfl rfl hy_X11_in rfl ⟨Nat.le_of_ble_eq_true rfl, Nat.le_of_ble_eq_true rfl⟩ (Nat.le_of_ble_eq_true rfl) dX11_goBack_4 ?_
  refine z_if_ne 13 C dX11_goBack_7 (by decide) (fun hc => ?_) (fun hc => ?_)
  · have h := e_f hc h
    refine z_aload_n C dX11_goBack_13 rfl ?_
    refine z_get C O_31 2 rfl (fun _ h9 => hsT _ (inX11 _ h9)) (by decide) (hsT _ tw_3_177) dX11_goBack_14 rfl ?_
    refine z_iload_n C dX11_goBack_17 rfl ?_
    obtain ⟨v18, h18, h⟩ := e_bd h
    refine z_zald C Z_34 h18 dX11_goBack_18 ?_
    refine z_if_ne 25 C dX11_goBack_19 (by decide) (fun hc => ?_) (fun hc => ?_)
    · have h := e_f hc h
      refine z_aload_n C dX11_goBack_25 rfl ?_
      refine z_sipush (141 : Int32) C dX11_goBack_26 (by decide) ?_
      refine z_sipush (141 : Int32) C dX11_goBack_29 (by decide) ?_
      refine z_iload_n C dX11_goBack_32 rfl ?_
      refine z_imul C dX11_goBack_33 ?_
      refine z_iadd C dX11_goBack_34 ?_
      refine z_iconst (0 : Int32) C dX11_goBack_35 (by decide) ?_
      obtain ⟨M36, h36, h⟩ := e_bd h
      refine z_callVv (As := [.int ((141 : Int32) + ((141 : Int32) * x1)), .int (0 : Int32)]) C (c_X11_copy l g h36) rfl O_31 rfl (gcV hsT tw_4_141 cw_X11_copy) rfl rfl rfl hy_X11_copy rfl ⟨Nat.le_of_ble_eq_true rfl, Nat.le_of_ble_eq_true rfl⟩ (Nat.le_of_ble_eq_true rfl) dX11_goBack_36 ?_
      refine z_aload_n C dX11_goBack_39 rfl ?_
      refine z_aload_n C dX11_goBack_40 rfl ?_
      refine z_get C O_31 1 rfl (fun _ h9 => hsT _ (inX11 _ h9)) (by decide) (hsT _ tw_3_176) dX11_goBack_41 rfl ?_
      refine z_iload_n C dX11_goBack_44 rfl ?_
      obtain ⟨v45, h45, h⟩ := e_bd h
      refine z_iald C I_33 h45 dX11_goBack_45 ?_
      obtain ⟨M46, h46, h⟩ := e_bd h
      refine z_puti tyX11 C O_31 4 O_31_4 rfl (fun _ h9 => hsT _ (inX11 _ h9)) tyX11_ok nmX11 (by decide) rfl (Nat.le_of_ble_eq_true rfl) (hsT _ tw_3_179) dX11_goBack_46 rfl h46 ?_
      refine z_aload_n C dX11_goBack_49 rfl ?_
      refine z_iconst (0 : Int32) C dX11_goBack_50 (by decide) ?_
      obtain ⟨M51, h51, h⟩ := e_bd h
      refine z_puti tyX11 C O_31 3 O_31_3 rfl (fun _ h9 => hsT _ (inX11 _ h9)) tyX11_ok nmX11 (by decide) rfl (Nat.le_of_ble_eq_true rfl) (hsT _ tw_3_178) dX11_goBack_51 rfl h51 ?_
      refine z_iconst (1 : Int32) C dX11_goBack_54 (by decide) ?_
      obtain rfl := Option.some.inj h
      exact z_iret C E dX11_goBack_55
    · have h := e_t hc h
      refine z_ldc (v := (-1000000003 : Int32)) C (hsT _ tw_4_121) dX11_goBack_22 ?_
      obtain rfl := Option.some.inj h
      exact z_iret C E dX11_goBack_24
  · have h := e_t hc h
    refine z_ldc (v := (-1000000001 : Int32)) C (hsT _ tw_4_90) dX11_goBack_10 ?_
    obtain rfl := Option.some.inj h
    exact z_iret C E dX11_goBack_12
