set_option maxRecDepth 20000 in
theorem tw_1_233 : Cond.methodLink RL 13 yX10_told ∈ TB := tb_1 (List.mem_of_getElem? (l := tables_1_1) (i := 233) rfl) rfl
set_option maxRecDepth 20000 in
theorem tw_3_230 : Cond.methodLink RL 17 yX11_told ∈ TB := tb_3 (List.mem_of_getElem? (l := tables_1_3) (i := 230) rfl) rfl
set_option maxRecDepth 20000 in
theorem tw_2_84 : Cond.methodLink RL 18 yX10_person ∈ TB := tb_2 (List.mem_of_getElem? (l := tables_1_2) (i := 84) rfl) rfl
set_option maxRecDepth 20000 in
theorem tw_4_86 : Cond.methodLink RL 22 yX11_person ∈ TB := tb_4 (List.mem_of_getElem? (l := tables_1_4) (i := 86) rfl) rfl
set_option maxRecDepth 20000 in
theorem tw_2_145 : Cond.methodLink RL 23 yX10_quarter ∈ TB := tb_2 (List.mem_of_getElem? (l := tables_1_2) (i := 145) rfl) rfl
set_option maxRecDepth 20000 in
theorem tw_4_101 : Cond.methodLink RL 27 yX11_quarter ∈ TB := tb_4 (List.mem_of_getElem? (l := tables_1_4) (i := 101) rfl) rfl
set_option maxRecDepth 20000 in
theorem tw_2_154 : Cond.methodLink RL 28 yX10_kin ∈ TB := tb_2 (List.mem_of_getElem? (l := tables_1_2) (i := 154) rfl) rfl
set_option maxRecDepth 20000 in
theorem tw_4_105 : Cond.methodLink RL 31 yX11_kin ∈ TB := tb_4 (List.mem_of_getElem? (l := tables_1_4) (i := 105) rfl) rfl
set_option maxRecDepth 20000 in
theorem tw_2_171 : Cond.methodLink RL 32 yX10_would ∈ TB := tb_2 (List.mem_of_getElem? (l := tables_1_2) (i := 171) rfl) rfl
set_option maxRecDepth 20000 in
theorem tw_4_113 : Cond.methodLink RL 35 yX11_would ∈ TB := tb_4 (List.mem_of_getElem? (l := tables_1_4) (i := 113) rfl) rfl
set_option maxRecDepth 20000 in
theorem tw_2_203 : Cond.methodLink RL 36 yX10_dated ∈ TB := tb_2 (List.mem_of_getElem? (l := tables_1_2) (i := 203) rfl) rfl
set_option maxRecDepth 20000 in
theorem tw_4_122 : Cond.methodLink RL 39 yX11_dated ∈ TB := tb_4 (List.mem_of_getElem? (l := tables_1_4) (i := 122) rfl) rfl
set_option maxRecDepth 20000 in
theorem tw_2_216 : Cond.methodLink RL 40 yX10_signAt ∈ TB := tb_2 (List.mem_of_getElem? (l := tables_1_2) (i := 216) rfl) rfl
set_option maxRecDepth 20000 in
theorem tw_4_127 : Cond.methodLink RL 43 yX11_signAt ∈ TB := tb_4 (List.mem_of_getElem? (l := tables_1_4) (i := 127) rfl) rfl
set_option maxRecDepth 20000 in
theorem tw_2_221 : Cond.methodLink RL 44 yX10_put ∈ TB := tb_2 (List.mem_of_getElem? (l := tables_1_2) (i := 221) rfl) rfl
set_option maxRecDepth 20000 in
theorem tw_4_131 : Cond.methodLink RL 48 yX11_put ∈ TB := tb_4 (List.mem_of_getElem? (l := tables_1_4) (i := 131) rfl) rfl
set_option maxRecDepth 20000 in
theorem tw_3_59 : Cond.methodLink RL 49 yX10_born ∈ TB := tb_3 (List.mem_of_getElem? (l := tables_1_3) (i := 59) rfl) rfl
set_option maxRecDepth 20000 in
theorem tw_4_149 : Cond.methodLink RL 52 yX11_born ∈ TB := tb_4 (List.mem_of_getElem? (l := tables_1_4) (i := 149) rfl) rfl
set_option maxRecDepth 20000 in
theorem tw_3_71 : Cond.methodLink RL 53 yX10_died ∈ TB := tb_3 (List.mem_of_getElem? (l := tables_1_3) (i := 71) rfl) rfl
set_option maxRecDepth 20000 in
theorem tw_4_157 : Cond.methodLink RL 56 yX11_died ∈ TB := tb_4 (List.mem_of_getElem? (l := tables_1_4) (i := 157) rfl) rfl
set_option maxRecDepth 20000 in
theorem tw_3_75 : Cond.methodLink RL 57 yX10_rule ∈ TB := tb_3 (List.mem_of_getElem? (l := tables_1_3) (i := 75) rfl) rfl
set_option maxRecDepth 20000 in
theorem tw_4_161 : Cond.methodLink RL 60 yX11_rule ∈ TB := tb_4 (List.mem_of_getElem? (l := tables_1_4) (i := 161) rfl) rfl
set_option maxRecDepth 20000 in
theorem tw_3_83 : Cond.methodLink RL 61 yX10_sign ∈ TB := tb_3 (List.mem_of_getElem? (l := tables_1_3) (i := 83) rfl) rfl
set_option maxRecDepth 20000 in
theorem tw_4_166 : Cond.methodLink RL 64 yX11_sign ∈ TB := tb_4 (List.mem_of_getElem? (l := tables_1_4) (i := 166) rfl) rfl
set_option maxRecDepth 20000 in
theorem tw_3_91 : Cond.methodLink RL 65 yX10_wipe ∈ TB := tb_3 (List.mem_of_getElem? (l := tables_1_3) (i := 91) rfl) rfl
set_option maxRecDepth 20000 in
theorem tw_4_171 : Cond.methodLink RL 69 yX11_wipe ∈ TB := tb_4 (List.mem_of_getElem? (l := tables_1_4) (i := 171) rfl) rfl
set_option maxRecDepth 20000 in
theorem tw_3_99 : Cond.methodLink RL 70 yX10_drift ∈ TB := tb_3 (List.mem_of_getElem? (l := tables_1_3) (i := 99) rfl) rfl
set_option maxRecDepth 20000 in
theorem tw_4_175 : Cond.methodLink RL 73 yX11_drift ∈ TB := tb_4 (List.mem_of_getElem? (l := tables_1_4) (i := 175) rfl) rfl
set_option maxRecDepth 20000 in
theorem tw_3_118 : Cond.methodLink RL 74 yX10_undo ∈ TB := tb_3 (List.mem_of_getElem? (l := tables_1_3) (i := 118) rfl) rfl
set_option maxRecDepth 20000 in
theorem tw_4_188 : Cond.methodLink RL 77 yX11_undo ∈ TB := tb_4 (List.mem_of_getElem? (l := tables_1_4) (i := 188) rfl) rfl
set_option maxRecDepth 20000 in
theorem tw_3_130 : Cond.methodLink RL 78 yX10_write ∈ TB := tb_3 (List.mem_of_getElem? (l := tables_1_3) (i := 130) rfl) rfl
set_option maxRecDepth 20000 in
theorem tw_4_193 : Cond.methodLink RL 81 yX11_write ∈ TB := tb_4 (List.mem_of_getElem? (l := tables_1_4) (i := 193) rfl) rfl
set_option maxRecDepth 20000 in
theorem tw_3_138 : Cond.methodLink RL 82 yX10_tear ∈ TB := tb_3 (List.mem_of_getElem? (l := tables_1_3) (i := 138) rfl) rfl
set_option maxRecDepth 20000 in
theorem tw_4_197 : Cond.methodLink RL 85 yX11_tear ∈ TB := tb_4 (List.mem_of_getElem? (l := tables_1_4) (i := 197) rfl) rfl
set_option maxRecDepth 20000 in
theorem tw_3_142 : Cond.methodLink RL 86 yX10_seed ∈ TB := tb_3 (List.mem_of_getElem? (l := tables_1_3) (i := 142) rfl) rfl
set_option maxRecDepth 20000 in
theorem tw_4_201 : Cond.methodLink RL 89 yX11_seed ∈ TB := tb_4 (List.mem_of_getElem? (l := tables_1_4) (i := 201) rfl) rfl
set_option maxRecDepth 20000 in
theorem tw_3_146 : Cond.methodLink RL 90 yX10_keep ∈ TB := tb_3 (List.mem_of_getElem? (l := tables_1_3) (i := 146) rfl) rfl
set_option maxRecDepth 20000 in
theorem tw_4_205 : Cond.methodLink RL 93 yX11_keep ∈ TB := tb_4 (List.mem_of_getElem? (l := tables_1_4) (i := 205) rfl) rfl
set_option maxRecDepth 20000 in
theorem tw_3_155 : Cond.methodLink RL 94 yX10_goBack ∈ TB := tb_3 (List.mem_of_getElem? (l := tables_1_3) (i := 155) rfl) rfl
set_option maxRecDepth 20000 in
theorem tw_4_209 : Cond.methodLink RL 97 yX11_goBack ∈ TB := tb_4 (List.mem_of_getElem? (l := tables_1_4) (i := 209) rfl) rfl
def zX (x : Cx) (b L : Nat) (xs : Nat → Int32) : Prop := match x with
  | (_, _, _, _, s, _, _, _, _, _, A, _, _, _, _) => va_X b L xs s s.heap ∧ b < s.heap.size ∧ ¬ A b
def zE (x : Cx) (b : Nat) : Prop := match x with
  | (_, _, _, _, s, _, args, below, meth, _, A, _, cells, slots, Q) => meth.sig.returnType = ret ∧ meth.locks = false ∧ args = #[Value.ref b] ∧ Q = lw_Z below #[Value.ref b] s ∧ A = (fun q : Nat => s.heap.size ≤ q) ∧ cells ≤ 600000 ∧ slots ≤ 7302250
section ZLAW
variable {g : Gx} {x : Cx} {M : MM} {pc : Nat} {lv : List (Nat × Value)} {st : List Value} {l : Launch} {own : String} {cc : ByteArray} {ws : List Cond} {rm : Room} {n0 : Nat} {b L : Nat} {xs : Nat → Int32}
theorem z_sld {i : Int32} (C : zC g x l own cc ws rm n0) (X : zX x b L xs) (hin : ¬ (i < 0 ∨ L ≤ i.toNatClampNeg)) (hd : decode cc pc = .ok (.iaload, 1)) (k : zJ g x M (pc + 1) lv (.int (xs i.toNatClampNeg) :: st)) : zJ g x M pc lv (.int i :: .ref b :: st) := by
  obtain ⟨p, l, e, R, s, m, args, below, meth, c, A, nL, cells, slots, Q⟩ := x
  obtain ⟨rfl, rfl, rfl, hx, hb, hml, hown, hts, hK, hD, hA, hc, hs⟩ := C
  obtain ⟨X1, X2, X3⟩ := X
  intro H locs ls hP hS hl
  exact va_sld hx hb X1 X2 X3 hS hin hd (k H locs ls hP hS hl)
theorem z_slen (C : zC g x l own cc ws rm n0) (X : zX x b L xs) (hd : decode cc pc = .ok (.arraylength, 1)) (k : zJ g x M (pc + 1) lv (.int (nI L) :: st)) : zJ g x M pc lv (.ref b :: st) := by
  obtain ⟨p, l, e, R, s, m, args, below, meth, c, A, nL, cells, slots, Q⟩ := x
  obtain ⟨rfl, rfl, rfl, hx, hb, hml, hown, hts, hK, hD, hA, hc, hs⟩ := C
  obtain ⟨X1, X2, X3⟩ := X
  intro H locs ls hP hS hl
  exact va_slen hx hb X1 X2 X3 hS hd (k H locs ls hP hS hl)
theorem z_lret (C : zC g x l own code ws room_1 n0) (E : zE x b) (hd : decode code pc = .ok (.ireturn, 1)) : zJ g x M pc lv [.int 1] := by
  obtain ⟨p, l, e, R, s, m, args, below, meth, c, A, nL, cells, slots, Q⟩ := x
  obtain ⟨rfl, rfl, rfl, hx, hb, hml, hown, hts, hK, hD, hA, hc, hs⟩ := C
  obtain ⟨hr, hlk, rfl, rfl, rfl, h1, h2⟩ := E
  intro H locs ls hP hS hl
  refine va_forget (fun q hq => hS.2.2 q hq) ?_
  refine W.widen (k := 600000) (n := 7302250) h1 h2 ?_
  exact lw_ret hx hb hr hlk hd
end ZLAW
theorem sx_in {j k L : Nat} (h : j + k < L) (hL : L ≤ 2560) : ¬ (nI j + nI k < 0 ∨ L ≤ (nI j + nI k).toNatClampNeg) := by
  rw [nI_add]
  exact nI_in h (by omega)

def op_told (J : MM → Prop) : Prop := ∀ M : MM, J M → ∀ a0 : Int32, ∃ s1 : Int32 × MM, f_X10_told M a0 = some s1 ∧ ∃ s2 : Int32 × MM, f_X11_told s1.2 a0 = some s2 ∧ s1.1 = s2.1 ∧ J s2.2
def op_person (J : MM → Prop) : Prop := ∀ M : MM, J M → ∀ a0 a1 : Int32, ∃ s1 : Int32 × MM, f_X10_person M a0 a1 = some s1 ∧ ∃ s2 : Int32 × MM, f_X11_person s1.2 a0 a1 = some s2 ∧ s1.1 = s2.1 ∧ J s2.2
def op_quarter (J : MM → Prop) : Prop := ∀ M : MM, J M → ∀ a0 a1 a2 : Int32, ∃ r : Int32, f_X10_quarter M a0 a1 a2 = some r ∧ ∃ s2 : Int32 × MM, f_X11_quarter M a0 a1 a2 = some s2 ∧ r = s2.1 ∧ J s2.2
def op_kin (J : MM → Prop) : Prop := ∀ M : MM, J M → ∀ a0 a1 a2 : Int32, ∃ s1 : Int32 × MM, f_X10_kin M a0 a1 a2 = some s1 ∧ ∃ s2 : Int32 × MM, f_X11_kin s1.2 a0 a1 a2 = some s2 ∧ s1.1 = s2.1 ∧ J s2.2
def op_would (J : MM → Prop) : Prop := ∀ M : MM, J M → ∀ a0 a1 : Int32, ∃ s1 : Int32 × MM, f_X10_would M a0 a1 = some s1 ∧ ∃ s2 : Int32 × MM, f_X11_would s1.2 a0 a1 = some s2 ∧ s1.1 = s2.1 ∧ J s2.2
def op_dated (J : MM → Prop) : Prop := ∀ M : MM, J M → ∀ a0 a1 : Int32, ∃ r : Int32, f_X10_dated M a0 a1 = some r ∧ ∃ s2 : Int32 × MM, f_X11_dated M a0 a1 = some s2 ∧ r = s2.1 ∧ J s2.2
def op_signAt (J : MM → Prop) : Prop := ∀ M : MM, J M → ∀ a0 : Int32, ∃ r : Int32, f_X10_signAt M a0 = some r ∧ f_X11_signAt M a0 = some r ∧ J M
def op_put (J : MM → Prop) : Prop := ∀ M : MM, J M → ∀ a0 a1 a2 a3 : Int32, ∃ s1 : Int32 × MM, f_X10_put M a0 a1 a2 a3 = some s1 ∧ ∃ s2 : Int32 × MM, f_X11_put s1.2 a0 a1 a2 a3 = some s2 ∧ s1.1 = s2.1 ∧ J s2.2
def op_born (J : MM → Prop) : Prop := ∀ M : MM, J M → ∀ a0 a1 a2 : Int32, ∃ s1 : Int32 × MM, f_X10_born M a0 a1 a2 = some s1 ∧ ∃ s2 : Int32 × MM, f_X11_born s1.2 a0 a1 a2 = some s2 ∧ s1.1 = s2.1 ∧ J s2.2
def op_died (J : MM → Prop) : Prop := ∀ M : MM, J M → ∀ a0 a1 a2 : Int32, ∃ s1 : Int32 × MM, f_X10_died M a0 a1 a2 = some s1 ∧ ∃ s2 : Int32 × MM, f_X11_died s1.2 a0 a1 a2 = some s2 ∧ s1.1 = s2.1 ∧ J s2.2
def op_rule (J : MM → Prop) : Prop := ∀ M : MM, J M → ∀ a0 : Int32, ∃ s1 : Int32 × MM, f_X10_rule M a0 = some s1 ∧ ∃ s2 : Int32 × MM, f_X11_rule s1.2 a0 = some s2 ∧ s1.1 = s2.1 ∧ J s2.2
def op_sign (J : MM → Prop) : Prop := ∀ M : MM, J M → ∀ a0 : Int32, ∃ s1 : Int32 × MM, f_X10_sign M a0 = some s1 ∧ ∃ s2 : Int32 × MM, f_X11_sign s1.2 a0 = some s2 ∧ s1.1 = s2.1 ∧ J s2.2
def op_wipe (J : MM → Prop) : Prop := ∀ M : MM, J M → ∃ s1 : Int32 × MM, f_X10_wipe M  = some s1 ∧ ∃ s2 : Int32 × MM, f_X11_wipe s1.2  = some s2 ∧ s1.1 = s2.1 ∧ J s2.2
def op_drift (J : MM → Prop) : Prop := ∀ M : MM, J M → ∀ a0 : Int32, ∃ s1 : Int32 × MM, f_X10_drift M a0 = some s1 ∧ ∃ s2 : Int32 × MM, f_X11_drift s1.2 a0 = some s2 ∧ s1.1 = s2.1 ∧ J s2.2
def op_undo (J : MM → Prop) : Prop := ∀ M : MM, J M → ∀ a0 : Int32, ∃ s1 : Int32 × MM, f_X10_undo M a0 = some s1 ∧ ∃ s2 : Int32 × MM, f_X11_undo s1.2 a0 = some s2 ∧ s1.1 = s2.1 ∧ J s2.2
def op_write (J : MM → Prop) : Prop := ∀ M : MM, J M → ∀ a0 a1 a2 : Int32, ∃ s1 : Int32 × MM, f_X10_write M a0 a1 a2 = some s1 ∧ ∃ s2 : Int32 × MM, f_X11_write s1.2 a0 a1 a2 = some s2 ∧ s1.1 = s2.1 ∧ J s2.2
def op_tear (J : MM → Prop) : Prop := ∀ M : MM, J M → ∃ s1 : Int32 × MM, f_X10_tear M  = some s1 ∧ ∃ s2 : Int32 × MM, f_X11_tear s1.2  = some s2 ∧ s1.1 = s2.1 ∧ J s2.2
def op_seed (J : MM → Prop) : Prop := ∀ M : MM, J M → ∀ a0 : Int32, ∃ s1 : Int32 × MM, f_X10_seed M a0 = some s1 ∧ ∃ s2 : Int32 × MM, f_X11_seed s1.2 a0 = some s2 ∧ s1.1 = s2.1 ∧ J s2.2
def op_keep (J : MM → Prop) : Prop := ∀ M : MM, J M → ∀ a0 : Int32, ∃ s1 : Int32 × MM, f_X10_keep M a0 = some s1 ∧ ∃ s2 : Int32 × MM, f_X11_keep s1.2 a0 = some s2 ∧ s1.1 = s2.1 ∧ J s2.2
def op_goBack (J : MM → Prop) : Prop := ∀ M : MM, J M → ∀ a0 : Int32, ∃ s1 : Int32 × MM, f_X10_goBack M a0 = some s1 ∧ ∃ s2 : Int32 × MM, f_X11_goBack s1.2 a0 = some s2 ∧ s1.1 = s2.1 ∧ J s2.2
def opOK (J : MM → Prop) : Prop := op_told J ∧ op_person J ∧ op_quarter J ∧ op_kin J ∧ op_would J ∧ op_dated J ∧ op_signAt J ∧ op_put J ∧ op_born J ∧ op_died J ∧ op_rule J ∧ op_sign J ∧ op_wipe J ∧ op_drift J ∧ op_undo J ∧ op_write J ∧ op_tear J ∧ op_seed J ∧ op_keep J ∧ op_goBack J
set_option maxRecDepth 100000 in
set_option maxHeartbeats 4000000 in
theorem law_told {J : MM → Prop} (hop : op_told J) {l : Launch} {g : Gx} {x : Cx} {b L j : Nat} {xs : Nat → Int32} {M : MM} (hL : L ≤ 2560) (C : zC g x l RL cL_law TB room_1 4) (X : zX x b L xs) (hM : J M) (hj : j + 4 < L) (kk : ∀ M1 : MM, J M1 → zJ g x M1 728 [(0, .ref b), (1, .ref (ga g 0)), (2, .ref (ga g 31)), (3, .int (nI j))] []) : zJ g x M 128 [(0, .ref b), (1, .ref (ga g 0)), (2, .ref (ga g 31)), (3, .int (nI j))] [] := by
  obtain ⟨s1, h1, s2, h2, he, hJ⟩ := hop M hM (xs (nI j + (1 : Int32)).toNatClampNeg)
  refine z_aload_n C dL_law_128 rfl ?_
  refine z_aload_n C dL_law_129 rfl ?_
  refine z_iload_n C dL_law_130 rfl ?_
  refine z_iconst (1 : Int32) C dL_law_131 (by decide) ?_
  refine z_iadd C dL_law_132 ?_
  refine z_sld C X (sx_in (k := 1) (by omega) hL) dL_law_133 ?_
  refine z_callVi (As := [.int (xs (nI j + (1 : Int32)).toNatClampNeg)]) C (c_X10_told l g h1) rfl O_0 rfl (gcV (fun _ h => h) tw_1_233 cw_X10_told) rfl rfl rfl hy_X10_told rfl ⟨(Nat.le_of_ble_eq_true rfl), (Nat.le_of_ble_eq_true rfl)⟩ (Nat.le_of_ble_eq_true rfl) dL_law_134 ?_
  refine z_aload_n C dL_law_137 rfl ?_
  refine z_aload_n C dL_law_138 rfl ?_
  refine z_iload_n C dL_law_139 rfl ?_
  refine z_iconst (1 : Int32) C dL_law_140 (by decide) ?_
  refine z_iadd C dL_law_141 ?_
  refine z_sld C X (sx_in (k := 1) (by omega) hL) dL_law_142 ?_
  refine z_callVi (As := [.int (xs (nI j + (1 : Int32)).toNatClampNeg)]) C (c_X11_told l g h2) rfl O_31 rfl (gcV (fun _ h => h) tw_3_230 cw_X11_told) rfl rfl rfl hy_X11_told rfl ⟨(Nat.le_of_ble_eq_true rfl), (Nat.le_of_ble_eq_true rfl)⟩ (Nat.le_of_ble_eq_true rfl) dL_law_143 ?_
  refine z_icmp_eq 728 C dL_law_146 (by decide) (fun hc => ?_) (fun hc => ?_)
  · exact kk _ hJ
  · exact absurd he hc
set_option maxRecDepth 100000 in
set_option maxHeartbeats 4000000 in
theorem law_person {J : MM → Prop} (hop : op_person J) {l : Launch} {g : Gx} {x : Cx} {b L j : Nat} {xs : Nat → Int32} {M : MM} (hL : L ≤ 2560) (C : zC g x l RL cL_law TB room_1 4) (X : zX x b L xs) (hM : J M) (hj : j + 4 < L) (kk : ∀ M1 : MM, J M1 → zJ g x M1 728 [(0, .ref b), (1, .ref (ga g 0)), (2, .ref (ga g 31)), (3, .int (nI j))] []) : zJ g x M 151 [(0, .ref b), (1, .ref (ga g 0)), (2, .ref (ga g 31)), (3, .int (nI j))] [] := by
  obtain ⟨s1, h1, s2, h2, he, hJ⟩ := hop M hM (xs (nI j + (1 : Int32)).toNatClampNeg) (xs (nI j + (2 : Int32)).toNatClampNeg)
  refine z_aload_n C dL_law_151 rfl ?_
  refine z_aload_n C dL_law_152 rfl ?_
  refine z_iload_n C dL_law_153 rfl ?_
  refine z_iconst (1 : Int32) C dL_law_154 (by decide) ?_
  refine z_iadd C dL_law_155 ?_
  refine z_sld C X (sx_in (k := 1) (by omega) hL) dL_law_156 ?_
  refine z_aload_n C dL_law_157 rfl ?_
  refine z_iload_n C dL_law_158 rfl ?_
  refine z_iconst (2 : Int32) C dL_law_159 (by decide) ?_
  refine z_iadd C dL_law_160 ?_
  refine z_sld C X (sx_in (k := 2) (by omega) hL) dL_law_161 ?_
  refine z_callVi (As := [.int (xs (nI j + (1 : Int32)).toNatClampNeg), .int (xs (nI j + (2 : Int32)).toNatClampNeg)]) C (c_X10_person l g h1) rfl O_0 rfl (gcV (fun _ h => h) tw_2_84 cw_X10_person) rfl rfl rfl hy_X10_person rfl ⟨(Nat.le_of_ble_eq_true rfl), (Nat.le_of_ble_eq_true rfl)⟩ (Nat.le_of_ble_eq_true rfl) dL_law_162 ?_
  refine z_aload_n C dL_law_165 rfl ?_
  refine z_aload_n C dL_law_166 rfl ?_
  refine z_iload_n C dL_law_167 rfl ?_
  refine z_iconst (1 : Int32) C dL_law_168 (by decide) ?_
  refine z_iadd C dL_law_169 ?_
  refine z_sld C X (sx_in (k := 1) (by omega) hL) dL_law_170 ?_
  refine z_aload_n C dL_law_171 rfl ?_
  refine z_iload_n C dL_law_172 rfl ?_
  refine z_iconst (2 : Int32) C dL_law_173 (by decide) ?_
  refine z_iadd C dL_law_174 ?_
  refine z_sld C X (sx_in (k := 2) (by omega) hL) dL_law_175 ?_
  refine z_callVi (As := [.int (xs (nI j + (1 : Int32)).toNatClampNeg), .int (xs (nI j + (2 : Int32)).toNatClampNeg)]) C (c_X11_person l g h2) rfl O_31 rfl (gcV (fun _ h => h) tw_4_86 cw_X11_person) rfl rfl rfl hy_X11_person rfl ⟨(Nat.le_of_ble_eq_true rfl), (Nat.le_of_ble_eq_true rfl)⟩ (Nat.le_of_ble_eq_true rfl) dL_law_176 ?_
  refine z_icmp_eq 728 C dL_law_179 (by decide) (fun hc => ?_) (fun hc => ?_)
  · exact kk _ hJ
  · exact absurd he hc
set_option maxRecDepth 100000 in
set_option maxHeartbeats 4000000 in
theorem law_quarter {J : MM → Prop} (hop : op_quarter J) {l : Launch} {g : Gx} {x : Cx} {b L j : Nat} {xs : Nat → Int32} {M : MM} (hL : L ≤ 2560) (C : zC g x l RL cL_law TB room_1 4) (X : zX x b L xs) (hM : J M) (hj : j + 4 < L) (kk : ∀ M1 : MM, J M1 → zJ g x M1 728 [(0, .ref b), (1, .ref (ga g 0)), (2, .ref (ga g 31)), (3, .int (nI j))] []) : zJ g x M 184 [(0, .ref b), (1, .ref (ga g 0)), (2, .ref (ga g 31)), (3, .int (nI j))] [] := by
  obtain ⟨r, h1, s2, h2, he, hJ⟩ := hop M hM (xs (nI j + (1 : Int32)).toNatClampNeg) (xs (nI j + (2 : Int32)).toNatClampNeg) (xs (nI j + (3 : Int32)).toNatClampNeg)
  refine z_aload_n C dL_law_184 rfl ?_
  refine z_aload_n C dL_law_185 rfl ?_
  refine z_iload_n C dL_law_186 rfl ?_
  refine z_iconst (1 : Int32) C dL_law_187 (by decide) ?_
  refine z_iadd C dL_law_188 ?_
  refine z_sld C X (sx_in (k := 1) (by omega) hL) dL_law_189 ?_
  refine z_aload_n C dL_law_190 rfl ?_
  refine z_iload_n C dL_law_191 rfl ?_
  refine z_iconst (2 : Int32) C dL_law_192 (by decide) ?_
  refine z_iadd C dL_law_193 ?_
  refine z_sld C X (sx_in (k := 2) (by omega) hL) dL_law_194 ?_
  refine z_aload_n C dL_law_195 rfl ?_
  refine z_iload_n C dL_law_196 rfl ?_
  refine z_iconst (3 : Int32) C dL_law_197 (by decide) ?_
  refine z_iadd C dL_law_198 ?_
  refine z_sld C X (sx_in (k := 3) (by omega) hL) dL_law_199 ?_
  refine z_callVi (As := [.int (xs (nI j + (1 : Int32)).toNatClampNeg), .int (xs (nI j + (2 : Int32)).toNatClampNeg), .int (xs (nI j + (3 : Int32)).toNatClampNeg)]) C (c_X10_quarter l g h1) rfl O_0 rfl (gcV (fun _ h => h) tw_2_145 cw_X10_quarter) rfl rfl rfl hy_X10_quarter rfl ⟨(Nat.le_of_ble_eq_true rfl), (Nat.le_of_ble_eq_true rfl)⟩ (Nat.le_of_ble_eq_true rfl) dL_law_200 ?_
  refine z_aload_n C dL_law_203 rfl ?_
  refine z_aload_n C dL_law_204 rfl ?_
  refine z_iload_n C dL_law_205 rfl ?_
  refine z_iconst (1 : Int32) C dL_law_206 (by decide) ?_
  refine z_iadd C dL_law_207 ?_
  refine z_sld C X (sx_in (k := 1) (by omega) hL) dL_law_208 ?_
  refine z_aload_n C dL_law_209 rfl ?_
  refine z_iload_n C dL_law_210 rfl ?_
  refine z_iconst (2 : Int32) C dL_law_211 (by decide) ?_
  refine z_iadd C dL_law_212 ?_
  refine z_sld C X (sx_in (k := 2) (by omega) hL) dL_law_213 ?_
  refine z_aload_n C dL_law_214 rfl ?_
  refine z_iload_n C dL_law_215 rfl ?_
  refine z_iconst (3 : Int32) C dL_law_216 (by decide) ?_
  refine z_iadd C dL_law_217 ?_
  refine z_sld C X (sx_in (k := 3) (by omega) hL) dL_law_218 ?_
  refine z_callVi (As := [.int (xs (nI j + (1 : Int32)).toNatClampNeg), .int (xs (nI j + (2 : Int32)).toNatClampNeg), .int (xs (nI j + (3 : Int32)).toNatClampNeg)]) C (c_X11_quarter l g h2) rfl O_31 rfl (gcV (fun _ h => h) tw_4_101 cw_X11_quarter) rfl rfl rfl hy_X11_quarter rfl ⟨(Nat.le_of_ble_eq_true rfl), (Nat.le_of_ble_eq_true rfl)⟩ (Nat.le_of_ble_eq_true rfl) dL_law_219 ?_
  refine z_icmp_eq 728 C dL_law_222 (by decide) (fun hc => ?_) (fun hc => ?_)
  · exact kk _ hJ
  · exact absurd he hc
set_option maxRecDepth 100000 in
set_option maxHeartbeats 4000000 in
theorem law_kin {J : MM → Prop} (hop : op_kin J) {l : Launch} {g : Gx} {x : Cx} {b L j : Nat} {xs : Nat → Int32} {M : MM} (hL : L ≤ 2560) (C : zC g x l RL cL_law TB room_1 4) (X : zX x b L xs) (hM : J M) (hj : j + 4 < L) (kk : ∀ M1 : MM, J M1 → zJ g x M1 728 [(0, .ref b), (1, .ref (ga g 0)), (2, .ref (ga g 31)), (3, .int (nI j))] []) : zJ g x M 227 [(0, .ref b), (1, .ref (ga g 0)), (2, .ref (ga g 31)), (3, .int (nI j))] [] := by
  obtain ⟨s1, h1, s2, h2, he, hJ⟩ := hop M hM (xs (nI j + (1 : Int32)).toNatClampNeg) (xs (nI j + (2 : Int32)).toNatClampNeg) (xs (nI j + (3 : Int32)).toNatClampNeg)
  refine z_aload_n C dL_law_227 rfl ?_
  refine z_aload_n C dL_law_228 rfl ?_
  refine z_iload_n C dL_law_229 rfl ?_
  refine z_iconst (1 : Int32) C dL_law_230 (by decide) ?_
  refine z_iadd C dL_law_231 ?_
  refine z_sld C X (sx_in (k := 1) (by omega) hL) dL_law_232 ?_
  refine z_aload_n C dL_law_233 rfl ?_
  refine z_iload_n C dL_law_234 rfl ?_
  refine z_iconst (2 : Int32) C dL_law_235 (by decide) ?_
  refine z_iadd C dL_law_236 ?_
  refine z_sld C X (sx_in (k := 2) (by omega) hL) dL_law_237 ?_
  refine z_aload_n C dL_law_238 rfl ?_
  refine z_iload_n C dL_law_239 rfl ?_
  refine z_iconst (3 : Int32) C dL_law_240 (by decide) ?_
  refine z_iadd C dL_law_241 ?_
  refine z_sld C X (sx_in (k := 3) (by omega) hL) dL_law_242 ?_
  refine z_callVi (As := [.int (xs (nI j + (1 : Int32)).toNatClampNeg), .int (xs (nI j + (2 : Int32)).toNatClampNeg), .int (xs (nI j + (3 : Int32)).toNatClampNeg)]) C (c_X10_kin l g h1) rfl O_0 rfl (gcV (fun _ h => h) tw_2_154 cw_X10_kin) rfl rfl rfl hy_X10_kin rfl ⟨(Nat.le_of_ble_eq_true rfl), (Nat.le_of_ble_eq_true rfl)⟩ (Nat.le_of_ble_eq_true rfl) dL_law_243 ?_
  refine z_aload_n C dL_law_246 rfl ?_
  refine z_aload_n C dL_law_247 rfl ?_
  refine z_iload_n C dL_law_248 rfl ?_
  refine z_iconst (1 : Int32) C dL_law_249 (by decide) ?_
  refine z_iadd C dL_law_250 ?_
  refine z_sld C X (sx_in (k := 1) (by omega) hL) dL_law_251 ?_
  refine z_aload_n C dL_law_252 rfl ?_
  refine z_iload_n C dL_law_253 rfl ?_
  refine z_iconst (2 : Int32) C dL_law_254 (by decide) ?_
  refine z_iadd C dL_law_255 ?_
  refine z_sld C X (sx_in (k := 2) (by omega) hL) dL_law_256 ?_
  refine z_aload_n C dL_law_257 rfl ?_
  refine z_iload_n C dL_law_258 rfl ?_
  refine z_iconst (3 : Int32) C dL_law_259 (by decide) ?_
  refine z_iadd C dL_law_260 ?_
  refine z_sld C X (sx_in (k := 3) (by omega) hL) dL_law_261 ?_
  refine z_callVi (As := [.int (xs (nI j + (1 : Int32)).toNatClampNeg), .int (xs (nI j + (2 : Int32)).toNatClampNeg), .int (xs (nI j + (3 : Int32)).toNatClampNeg)]) C (c_X11_kin l g h2) rfl O_31 rfl (gcV (fun _ h => h) tw_4_105 cw_X11_kin) rfl rfl rfl hy_X11_kin rfl ⟨(Nat.le_of_ble_eq_true rfl), (Nat.le_of_ble_eq_true rfl)⟩ (Nat.le_of_ble_eq_true rfl) dL_law_262 ?_
  refine z_icmp_eq 728 C dL_law_265 (by decide) (fun hc => ?_) (fun hc => ?_)
  · exact kk _ hJ
  · exact absurd he hc
set_option maxRecDepth 100000 in
set_option maxHeartbeats 4000000 in
theorem law_would {J : MM → Prop} (hop : op_would J) {l : Launch} {g : Gx} {x : Cx} {b L j : Nat} {xs : Nat → Int32} {M : MM} (hL : L ≤ 2560) (C : zC g x l RL cL_law TB room_1 4) (X : zX x b L xs) (hM : J M) (hj : j + 4 < L) (kk : ∀ M1 : MM, J M1 → zJ g x M1 728 [(0, .ref b), (1, .ref (ga g 0)), (2, .ref (ga g 31)), (3, .int (nI j))] []) : zJ g x M 270 [(0, .ref b), (1, .ref (ga g 0)), (2, .ref (ga g 31)), (3, .int (nI j))] [] := by
  obtain ⟨s1, h1, s2, h2, he, hJ⟩ := hop M hM (xs (nI j + (1 : Int32)).toNatClampNeg) (xs (nI j + (2 : Int32)).toNatClampNeg)
  refine z_aload_n C dL_law_270 rfl ?_
  refine z_aload_n C dL_law_271 rfl ?_
  refine z_iload_n C dL_law_272 rfl ?_
  refine z_iconst (1 : Int32) C dL_law_273 (by decide) ?_
  refine z_iadd C dL_law_274 ?_
  refine z_sld C X (sx_in (k := 1) (by omega) hL) dL_law_275 ?_
  refine z_aload_n C dL_law_276 rfl ?_
  refine z_iload_n C dL_law_277 rfl ?_
  refine z_iconst (2 : Int32) C dL_law_278 (by decide) ?_
  refine z_iadd C dL_law_279 ?_
  refine z_sld C X (sx_in (k := 2) (by omega) hL) dL_law_280 ?_
  refine z_callVi (As := [.int (xs (nI j + (1 : Int32)).toNatClampNeg), .int (xs (nI j + (2 : Int32)).toNatClampNeg)]) C (c_X10_would l g h1) rfl O_0 rfl (gcV (fun _ h => h) tw_2_171 cw_X10_would) rfl rfl rfl hy_X10_would rfl ⟨(Nat.le_of_ble_eq_true rfl), (Nat.le_of_ble_eq_true rfl)⟩ (Nat.le_of_ble_eq_true rfl) dL_law_281 ?_
  refine z_aload_n C dL_law_284 rfl ?_
  refine z_aload_n C dL_law_285 rfl ?_
  refine z_iload_n C dL_law_286 rfl ?_
  refine z_iconst (1 : Int32) C dL_law_287 (by decide) ?_
  refine z_iadd C dL_law_288 ?_
  refine z_sld C X (sx_in (k := 1) (by omega) hL) dL_law_289 ?_
  refine z_aload_n C dL_law_290 rfl ?_
  refine z_iload_n C dL_law_291 rfl ?_
  refine z_iconst (2 : Int32) C dL_law_292 (by decide) ?_
  refine z_iadd C dL_law_293 ?_
  refine z_sld C X (sx_in (k := 2) (by omega) hL) dL_law_294 ?_
  refine z_callVi (As := [.int (xs (nI j + (1 : Int32)).toNatClampNeg), .int (xs (nI j + (2 : Int32)).toNatClampNeg)]) C (c_X11_would l g h2) rfl O_31 rfl (gcV (fun _ h => h) tw_4_113 cw_X11_would) rfl rfl rfl hy_X11_would rfl ⟨(Nat.le_of_ble_eq_true rfl), (Nat.le_of_ble_eq_true rfl)⟩ (Nat.le_of_ble_eq_true rfl) dL_law_295 ?_
  refine z_icmp_eq 728 C dL_law_298 (by decide) (fun hc => ?_) (fun hc => ?_)
  · exact kk _ hJ
  · exact absurd he hc
set_option maxRecDepth 100000 in
set_option maxHeartbeats 4000000 in
theorem law_dated {J : MM → Prop} (hop : op_dated J) {l : Launch} {g : Gx} {x : Cx} {b L j : Nat} {xs : Nat → Int32} {M : MM} (hL : L ≤ 2560) (C : zC g x l RL cL_law TB room_1 4) (X : zX x b L xs) (hM : J M) (hj : j + 4 < L) (kk : ∀ M1 : MM, J M1 → zJ g x M1 728 [(0, .ref b), (1, .ref (ga g 0)), (2, .ref (ga g 31)), (3, .int (nI j))] []) : zJ g x M 303 [(0, .ref b), (1, .ref (ga g 0)), (2, .ref (ga g 31)), (3, .int (nI j))] [] := by
  obtain ⟨r, h1, s2, h2, he, hJ⟩ := hop M hM (xs (nI j + (1 : Int32)).toNatClampNeg) (xs (nI j + (2 : Int32)).toNatClampNeg)
  refine z_aload_n C dL_law_303 rfl ?_
  refine z_aload_n C dL_law_304 rfl ?_
  refine z_iload_n C dL_law_305 rfl ?_
  refine z_iconst (1 : Int32) C dL_law_306 (by decide) ?_
  refine z_iadd C dL_law_307 ?_
  refine z_sld C X (sx_in (k := 1) (by omega) hL) dL_law_308 ?_
  refine z_aload_n C dL_law_309 rfl ?_
  refine z_iload_n C dL_law_310 rfl ?_
  refine z_iconst (2 : Int32) C dL_law_311 (by decide) ?_
  refine z_iadd C dL_law_312 ?_
  refine z_sld C X (sx_in (k := 2) (by omega) hL) dL_law_313 ?_
  refine z_callVi (As := [.int (xs (nI j + (1 : Int32)).toNatClampNeg), .int (xs (nI j + (2 : Int32)).toNatClampNeg)]) C (c_X10_dated l g h1) rfl O_0 rfl (gcV (fun _ h => h) tw_2_203 cw_X10_dated) rfl rfl rfl hy_X10_dated rfl ⟨(Nat.le_of_ble_eq_true rfl), (Nat.le_of_ble_eq_true rfl)⟩ (Nat.le_of_ble_eq_true rfl) dL_law_314 ?_
  refine z_aload_n C dL_law_317 rfl ?_
  refine z_aload_n C dL_law_318 rfl ?_
  refine z_iload_n C dL_law_319 rfl ?_
  refine z_iconst (1 : Int32) C dL_law_320 (by decide) ?_
  refine z_iadd C dL_law_321 ?_
  refine z_sld C X (sx_in (k := 1) (by omega) hL) dL_law_322 ?_
  refine z_aload_n C dL_law_323 rfl ?_
  refine z_iload_n C dL_law_324 rfl ?_
  refine z_iconst (2 : Int32) C dL_law_325 (by decide) ?_
  refine z_iadd C dL_law_326 ?_
  refine z_sld C X (sx_in (k := 2) (by omega) hL) dL_law_327 ?_
  refine z_callVi (As := [.int (xs (nI j + (1 : Int32)).toNatClampNeg), .int (xs (nI j + (2 : Int32)).toNatClampNeg)]) C (c_X11_dated l g h2) rfl O_31 rfl (gcV (fun _ h => h) tw_4_122 cw_X11_dated) rfl rfl rfl hy_X11_dated rfl ⟨(Nat.le_of_ble_eq_true rfl), (Nat.le_of_ble_eq_true rfl)⟩ (Nat.le_of_ble_eq_true rfl) dL_law_328 ?_
  refine z_icmp_eq 728 C dL_law_331 (by decide) (fun hc => ?_) (fun hc => ?_)
  · exact kk _ hJ
  · exact absurd he hc
set_option maxRecDepth 100000 in
set_option maxHeartbeats 4000000 in
theorem law_signAt {J : MM → Prop} (hop : op_signAt J) {l : Launch} {g : Gx} {x : Cx} {b L j : Nat} {xs : Nat → Int32} {M : MM} (hL : L ≤ 2560) (C : zC g x l RL cL_law TB room_1 4) (X : zX x b L xs) (hM : J M) (hj : j + 4 < L) (kk : ∀ M1 : MM, J M1 → zJ g x M1 728 [(0, .ref b), (1, .ref (ga g 0)), (2, .ref (ga g 31)), (3, .int (nI j))] []) : zJ g x M 336 [(0, .ref b), (1, .ref (ga g 0)), (2, .ref (ga g 31)), (3, .int (nI j))] [] := by
  obtain ⟨r, h1, h2, hJ⟩ := hop M hM (xs (nI j + (1 : Int32)).toNatClampNeg)
  refine z_aload_n C dL_law_336 rfl ?_
  refine z_aload_n C dL_law_337 rfl ?_
  refine z_iload_n C dL_law_338 rfl ?_
  refine z_iconst (1 : Int32) C dL_law_339 (by decide) ?_
  refine z_iadd C dL_law_340 ?_
  refine z_sld C X (sx_in (k := 1) (by omega) hL) dL_law_341 ?_
  refine z_callVi (As := [.int (xs (nI j + (1 : Int32)).toNatClampNeg)]) C (c_X10_signAt l g h1) rfl O_0 rfl (gcV (fun _ h => h) tw_2_216 cw_X10_signAt) rfl rfl rfl hy_X10_signAt rfl ⟨(Nat.le_of_ble_eq_true rfl), (Nat.le_of_ble_eq_true rfl)⟩ (Nat.le_of_ble_eq_true rfl) dL_law_342 ?_
  refine z_aload_n C dL_law_345 rfl ?_
  refine z_aload_n C dL_law_346 rfl ?_
  refine z_iload_n C dL_law_347 rfl ?_
  refine z_iconst (1 : Int32) C dL_law_348 (by decide) ?_
  refine z_iadd C dL_law_349 ?_
  refine z_sld C X (sx_in (k := 1) (by omega) hL) dL_law_350 ?_
  refine z_callVi (As := [.int (xs (nI j + (1 : Int32)).toNatClampNeg)]) C (c_X11_signAt l g h2) rfl O_31 rfl (gcV (fun _ h => h) tw_4_127 cw_X11_signAt) rfl rfl rfl hy_X11_signAt rfl ⟨(Nat.le_of_ble_eq_true rfl), (Nat.le_of_ble_eq_true rfl)⟩ (Nat.le_of_ble_eq_true rfl) dL_law_351 ?_
  refine z_icmp_eq 728 C dL_law_354 (by decide) (fun hc => ?_) (fun hc => ?_)
  · exact kk _ hJ
  · exact absurd rfl hc
set_option maxRecDepth 100000 in
set_option maxHeartbeats 4000000 in
theorem law_put {J : MM → Prop} (hop : op_put J) {l : Launch} {g : Gx} {x : Cx} {b L j : Nat} {xs : Nat → Int32} {M : MM} (hL : L ≤ 2560) (C : zC g x l RL cL_law TB room_1 4) (X : zX x b L xs) (hM : J M) (hj : j + 4 < L) (kk : ∀ M1 : MM, J M1 → zJ g x M1 728 [(0, .ref b), (1, .ref (ga g 0)), (2, .ref (ga g 31)), (3, .int (nI j))] []) : zJ g x M 359 [(0, .ref b), (1, .ref (ga g 0)), (2, .ref (ga g 31)), (3, .int (nI j))] [] := by
  obtain ⟨s1, h1, s2, h2, he, hJ⟩ := hop M hM (xs (nI j + (1 : Int32)).toNatClampNeg) (xs (nI j + (2 : Int32)).toNatClampNeg) (xs (nI j + (3 : Int32)).toNatClampNeg) (xs (nI j + (4 : Int32)).toNatClampNeg)
  refine z_aload_n C dL_law_359 rfl ?_
  refine z_aload_n C dL_law_360 rfl ?_
  refine z_iload_n C dL_law_361 rfl ?_
  refine z_iconst (1 : Int32) C dL_law_362 (by decide) ?_
  refine z_iadd C dL_law_363 ?_
  refine z_sld C X (sx_in (k := 1) (by omega) hL) dL_law_364 ?_
  refine z_aload_n C dL_law_365 rfl ?_
  refine z_iload_n C dL_law_366 rfl ?_
  refine z_iconst (2 : Int32) C dL_law_367 (by decide) ?_
  refine z_iadd C dL_law_368 ?_
  refine z_sld C X (sx_in (k := 2) (by omega) hL) dL_law_369 ?_
  refine z_aload_n C dL_law_370 rfl ?_
  refine z_iload_n C dL_law_371 rfl ?_
  refine z_iconst (3 : Int32) C dL_law_372 (by decide) ?_
  refine z_iadd C dL_law_373 ?_
  refine z_sld C X (sx_in (k := 3) (by omega) hL) dL_law_374 ?_
  refine z_aload_n C dL_law_375 rfl ?_
  refine z_iload_n C dL_law_376 rfl ?_
  refine z_iconst (4 : Int32) C dL_law_377 (by decide) ?_
  refine z_iadd C dL_law_378 ?_
  refine z_sld C X (sx_in (k := 4) (by omega) hL) dL_law_379 ?_
  refine z_callVi (As := [.int (xs (nI j + (1 : Int32)).toNatClampNeg), .int (xs (nI j + (2 : Int32)).toNatClampNeg), .int (xs (nI j + (3 : Int32)).toNatClampNeg), .int (xs (nI j + (4 : Int32)).toNatClampNeg)]) C (c_X10_put l g h1) rfl O_0 rfl (gcV (fun _ h => h) tw_2_221 cw_X10_put) rfl rfl rfl hy_X10_put rfl ⟨(Nat.le_of_ble_eq_true rfl), (Nat.le_of_ble_eq_true rfl)⟩ (Nat.le_of_ble_eq_true rfl) dL_law_380 ?_
  refine z_aload_n C dL_law_383 rfl ?_
  refine z_aload_n C dL_law_384 rfl ?_
  refine z_iload_n C dL_law_385 rfl ?_
  refine z_iconst (1 : Int32) C dL_law_386 (by decide) ?_
  refine z_iadd C dL_law_387 ?_
  refine z_sld C X (sx_in (k := 1) (by omega) hL) dL_law_388 ?_
  refine z_aload_n C dL_law_389 rfl ?_
  refine z_iload_n C dL_law_390 rfl ?_
  refine z_iconst (2 : Int32) C dL_law_391 (by decide) ?_
  refine z_iadd C dL_law_392 ?_
  refine z_sld C X (sx_in (k := 2) (by omega) hL) dL_law_393 ?_
  refine z_aload_n C dL_law_394 rfl ?_
  refine z_iload_n C dL_law_395 rfl ?_
  refine z_iconst (3 : Int32) C dL_law_396 (by decide) ?_
  refine z_iadd C dL_law_397 ?_
  refine z_sld C X (sx_in (k := 3) (by omega) hL) dL_law_398 ?_
  refine z_aload_n C dL_law_399 rfl ?_
  refine z_iload_n C dL_law_400 rfl ?_
  refine z_iconst (4 : Int32) C dL_law_401 (by decide) ?_
  refine z_iadd C dL_law_402 ?_
  refine z_sld C X (sx_in (k := 4) (by omega) hL) dL_law_403 ?_
  refine z_callVi (As := [.int (xs (nI j + (1 : Int32)).toNatClampNeg), .int (xs (nI j + (2 : Int32)).toNatClampNeg), .int (xs (nI j + (3 : Int32)).toNatClampNeg), .int (xs (nI j + (4 : Int32)).toNatClampNeg)]) C (c_X11_put l g h2) rfl O_31 rfl (gcV (fun _ h => h) tw_4_131 cw_X11_put) rfl rfl rfl hy_X11_put rfl ⟨(Nat.le_of_ble_eq_true rfl), (Nat.le_of_ble_eq_true rfl)⟩ (Nat.le_of_ble_eq_true rfl) dL_law_404 ?_
  refine z_icmp_eq 728 C dL_law_407 (by decide) (fun hc => ?_) (fun hc => ?_)
  · exact kk _ hJ
  · exact absurd he hc
set_option maxRecDepth 100000 in
set_option maxHeartbeats 4000000 in
theorem law_born {J : MM → Prop} (hop : op_born J) {l : Launch} {g : Gx} {x : Cx} {b L j : Nat} {xs : Nat → Int32} {M : MM} (hL : L ≤ 2560) (C : zC g x l RL cL_law TB room_1 4) (X : zX x b L xs) (hM : J M) (hj : j + 4 < L) (kk : ∀ M1 : MM, J M1 → zJ g x M1 728 [(0, .ref b), (1, .ref (ga g 0)), (2, .ref (ga g 31)), (3, .int (nI j))] []) : zJ g x M 412 [(0, .ref b), (1, .ref (ga g 0)), (2, .ref (ga g 31)), (3, .int (nI j))] [] := by
  obtain ⟨s1, h1, s2, h2, he, hJ⟩ := hop M hM (xs (nI j + (1 : Int32)).toNatClampNeg) (xs (nI j + (2 : Int32)).toNatClampNeg) (xs (nI j + (3 : Int32)).toNatClampNeg)
  refine z_aload_n C dL_law_412 rfl ?_
  refine z_aload_n C dL_law_413 rfl ?_
  refine z_iload_n C dL_law_414 rfl ?_
  refine z_iconst (1 : Int32) C dL_law_415 (by decide) ?_
  refine z_iadd C dL_law_416 ?_
  refine z_sld C X (sx_in (k := 1) (by omega) hL) dL_law_417 ?_
  refine z_aload_n C dL_law_418 rfl ?_
  refine z_iload_n C dL_law_419 rfl ?_
  refine z_iconst (2 : Int32) C dL_law_420 (by decide) ?_
  refine z_iadd C dL_law_421 ?_
  refine z_sld C X (sx_in (k := 2) (by omega) hL) dL_law_422 ?_
  refine z_aload_n C dL_law_423 rfl ?_
  refine z_iload_n C dL_law_424 rfl ?_
  refine z_iconst (3 : Int32) C dL_law_425 (by decide) ?_
  refine z_iadd C dL_law_426 ?_
  refine z_sld C X (sx_in (k := 3) (by omega) hL) dL_law_427 ?_
  refine z_callVi (As := [.int (xs (nI j + (1 : Int32)).toNatClampNeg), .int (xs (nI j + (2 : Int32)).toNatClampNeg), .int (xs (nI j + (3 : Int32)).toNatClampNeg)]) C (c_X10_born l g h1) rfl O_0 rfl (gcV (fun _ h => h) tw_3_59 cw_X10_born) rfl rfl rfl hy_X10_born rfl ⟨(Nat.le_of_ble_eq_true rfl), (Nat.le_of_ble_eq_true rfl)⟩ (Nat.le_of_ble_eq_true rfl) dL_law_428 ?_
  refine z_aload_n C dL_law_431 rfl ?_
  refine z_aload_n C dL_law_432 rfl ?_
  refine z_iload_n C dL_law_433 rfl ?_
  refine z_iconst (1 : Int32) C dL_law_434 (by decide) ?_
  refine z_iadd C dL_law_435 ?_
  refine z_sld C X (sx_in (k := 1) (by omega) hL) dL_law_436 ?_
  refine z_aload_n C dL_law_437 rfl ?_
  refine z_iload_n C dL_law_438 rfl ?_
  refine z_iconst (2 : Int32) C dL_law_439 (by decide) ?_
  refine z_iadd C dL_law_440 ?_
  refine z_sld C X (sx_in (k := 2) (by omega) hL) dL_law_441 ?_
  refine z_aload_n C dL_law_442 rfl ?_
  refine z_iload_n C dL_law_443 rfl ?_
  refine z_iconst (3 : Int32) C dL_law_444 (by decide) ?_
  refine z_iadd C dL_law_445 ?_
  refine z_sld C X (sx_in (k := 3) (by omega) hL) dL_law_446 ?_
  refine z_callVi (As := [.int (xs (nI j + (1 : Int32)).toNatClampNeg), .int (xs (nI j + (2 : Int32)).toNatClampNeg), .int (xs (nI j + (3 : Int32)).toNatClampNeg)]) C (c_X11_born l g h2) rfl O_31 rfl (gcV (fun _ h => h) tw_4_149 cw_X11_born) rfl rfl rfl hy_X11_born rfl ⟨(Nat.le_of_ble_eq_true rfl), (Nat.le_of_ble_eq_true rfl)⟩ (Nat.le_of_ble_eq_true rfl) dL_law_447 ?_
  refine z_icmp_eq 728 C dL_law_450 (by decide) (fun hc => ?_) (fun hc => ?_)
  · exact kk _ hJ
  · exact absurd he hc
set_option maxRecDepth 100000 in
set_option maxHeartbeats 4000000 in
theorem law_died {J : MM → Prop} (hop : op_died J) {l : Launch} {g : Gx} {x : Cx} {b L j : Nat} {xs : Nat → Int32} {M : MM} (hL : L ≤ 2560) (C : zC g x l RL cL_law TB room_1 4) (X : zX x b L xs) (hM : J M) (hj : j + 4 < L) (kk : ∀ M1 : MM, J M1 → zJ g x M1 728 [(0, .ref b), (1, .ref (ga g 0)), (2, .ref (ga g 31)), (3, .int (nI j))] []) : zJ g x M 455 [(0, .ref b), (1, .ref (ga g 0)), (2, .ref (ga g 31)), (3, .int (nI j))] [] := by
  obtain ⟨s1, h1, s2, h2, he, hJ⟩ := hop M hM (xs (nI j + (1 : Int32)).toNatClampNeg) (xs (nI j + (2 : Int32)).toNatClampNeg) (xs (nI j + (3 : Int32)).toNatClampNeg)
  refine z_aload_n C dL_law_455 rfl ?_
  refine z_aload_n C dL_law_456 rfl ?_
  refine z_iload_n C dL_law_457 rfl ?_
  refine z_iconst (1 : Int32) C dL_law_458 (by decide) ?_
  refine z_iadd C dL_law_459 ?_
  refine z_sld C X (sx_in (k := 1) (by omega) hL) dL_law_460 ?_
  refine z_aload_n C dL_law_461 rfl ?_
  refine z_iload_n C dL_law_462 rfl ?_
  refine z_iconst (2 : Int32) C dL_law_463 (by decide) ?_
  refine z_iadd C dL_law_464 ?_
  refine z_sld C X (sx_in (k := 2) (by omega) hL) dL_law_465 ?_
  refine z_aload_n C dL_law_466 rfl ?_
  refine z_iload_n C dL_law_467 rfl ?_
  refine z_iconst (3 : Int32) C dL_law_468 (by decide) ?_
  refine z_iadd C dL_law_469 ?_
  refine z_sld C X (sx_in (k := 3) (by omega) hL) dL_law_470 ?_
  refine z_callVi (As := [.int (xs (nI j + (1 : Int32)).toNatClampNeg), .int (xs (nI j + (2 : Int32)).toNatClampNeg), .int (xs (nI j + (3 : Int32)).toNatClampNeg)]) C (c_X10_died l g h1) rfl O_0 rfl (gcV (fun _ h => h) tw_3_71 cw_X10_died) rfl rfl rfl hy_X10_died rfl ⟨(Nat.le_of_ble_eq_true rfl), (Nat.le_of_ble_eq_true rfl)⟩ (Nat.le_of_ble_eq_true rfl) dL_law_471 ?_
  refine z_aload_n C dL_law_474 rfl ?_
  refine z_aload_n C dL_law_475 rfl ?_
  refine z_iload_n C dL_law_476 rfl ?_
  refine z_iconst (1 : Int32) C dL_law_477 (by decide) ?_
  refine z_iadd C dL_law_478 ?_
  refine z_sld C X (sx_in (k := 1) (by omega) hL) dL_law_479 ?_
  refine z_aload_n C dL_law_480 rfl ?_
  refine z_iload_n C dL_law_481 rfl ?_
  refine z_iconst (2 : Int32) C dL_law_482 (by decide) ?_
  refine z_iadd C dL_law_483 ?_
  refine z_sld C X (sx_in (k := 2) (by omega) hL) dL_law_484 ?_
  refine z_aload_n C dL_law_485 rfl ?_
  refine z_iload_n C dL_law_486 rfl ?_
  refine z_iconst (3 : Int32) C dL_law_487 (by decide) ?_
  refine z_iadd C dL_law_488 ?_
  refine z_sld C X (sx_in (k := 3) (by omega) hL) dL_law_489 ?_
  refine z_callVi (As := [.int (xs (nI j + (1 : Int32)).toNatClampNeg), .int (xs (nI j + (2 : Int32)).toNatClampNeg), .int (xs (nI j + (3 : Int32)).toNatClampNeg)]) C (c_X11_died l g h2) rfl O_31 rfl (gcV (fun _ h => h) tw_4_157 cw_X11_died) rfl rfl rfl hy_X11_died rfl ⟨(Nat.le_of_ble_eq_true rfl), (Nat.le_of_ble_eq_true rfl)⟩ (Nat.le_of_ble_eq_true rfl) dL_law_490 ?_
  refine z_icmp_eq 728 C dL_law_493 (by decide) (fun hc => ?_) (fun hc => ?_)
  · exact kk _ hJ
  · exact absurd he hc
set_option maxRecDepth 100000 in
set_option maxHeartbeats 4000000 in
theorem law_rule {J : MM → Prop} (hop : op_rule J) {l : Launch} {g : Gx} {x : Cx} {b L j : Nat} {xs : Nat → Int32} {M : MM} (hL : L ≤ 2560) (C : zC g x l RL cL_law TB room_1 4) (X : zX x b L xs) (hM : J M) (hj : j + 4 < L) (kk : ∀ M1 : MM, J M1 → zJ g x M1 728 [(0, .ref b), (1, .ref (ga g 0)), (2, .ref (ga g 31)), (3, .int (nI j))] []) : zJ g x M 498 [(0, .ref b), (1, .ref (ga g 0)), (2, .ref (ga g 31)), (3, .int (nI j))] [] := by
  obtain ⟨s1, h1, s2, h2, he, hJ⟩ := hop M hM (xs (nI j + (1 : Int32)).toNatClampNeg)
  refine z_aload_n C dL_law_498 rfl ?_
  refine z_aload_n C dL_law_499 rfl ?_
  refine z_iload_n C dL_law_500 rfl ?_
  refine z_iconst (1 : Int32) C dL_law_501 (by decide) ?_
  refine z_iadd C dL_law_502 ?_
  refine z_sld C X (sx_in (k := 1) (by omega) hL) dL_law_503 ?_
  refine z_callVi (As := [.int (xs (nI j + (1 : Int32)).toNatClampNeg)]) C (c_X10_rule l g h1) rfl O_0 rfl (gcV (fun _ h => h) tw_3_75 cw_X10_rule) rfl rfl rfl hy_X10_rule rfl ⟨(Nat.le_of_ble_eq_true rfl), (Nat.le_of_ble_eq_true rfl)⟩ (Nat.le_of_ble_eq_true rfl) dL_law_504 ?_
  refine z_aload_n C dL_law_507 rfl ?_
  refine z_aload_n C dL_law_508 rfl ?_
  refine z_iload_n C dL_law_509 rfl ?_
  refine z_iconst (1 : Int32) C dL_law_510 (by decide) ?_
  refine z_iadd C dL_law_511 ?_
  refine z_sld C X (sx_in (k := 1) (by omega) hL) dL_law_512 ?_
  refine z_callVi (As := [.int (xs (nI j + (1 : Int32)).toNatClampNeg)]) C (c_X11_rule l g h2) rfl O_31 rfl (gcV (fun _ h => h) tw_4_161 cw_X11_rule) rfl rfl rfl hy_X11_rule rfl ⟨(Nat.le_of_ble_eq_true rfl), (Nat.le_of_ble_eq_true rfl)⟩ (Nat.le_of_ble_eq_true rfl) dL_law_513 ?_
  refine z_icmp_eq 728 C dL_law_516 (by decide) (fun hc => ?_) (fun hc => ?_)
  · exact kk _ hJ
  · exact absurd he hc
set_option maxRecDepth 100000 in
set_option maxHeartbeats 4000000 in
theorem law_sign {J : MM → Prop} (hop : op_sign J) {l : Launch} {g : Gx} {x : Cx} {b L j : Nat} {xs : Nat → Int32} {M : MM} (hL : L ≤ 2560) (C : zC g x l RL cL_law TB room_1 4) (X : zX x b L xs) (hM : J M) (hj : j + 4 < L) (kk : ∀ M1 : MM, J M1 → zJ g x M1 728 [(0, .ref b), (1, .ref (ga g 0)), (2, .ref (ga g 31)), (3, .int (nI j))] []) : zJ g x M 521 [(0, .ref b), (1, .ref (ga g 0)), (2, .ref (ga g 31)), (3, .int (nI j))] [] := by
  obtain ⟨s1, h1, s2, h2, he, hJ⟩ := hop M hM (xs (nI j + (1 : Int32)).toNatClampNeg)
  refine z_aload_n C dL_law_521 rfl ?_
  refine z_aload_n C dL_law_522 rfl ?_
  refine z_iload_n C dL_law_523 rfl ?_
  refine z_iconst (1 : Int32) C dL_law_524 (by decide) ?_
  refine z_iadd C dL_law_525 ?_
  refine z_sld C X (sx_in (k := 1) (by omega) hL) dL_law_526 ?_
  refine z_callVi (As := [.int (xs (nI j + (1 : Int32)).toNatClampNeg)]) C (c_X10_sign l g h1) rfl O_0 rfl (gcV (fun _ h => h) tw_3_83 cw_X10_sign) rfl rfl rfl hy_X10_sign rfl ⟨(Nat.le_of_ble_eq_true rfl), (Nat.le_of_ble_eq_true rfl)⟩ (Nat.le_of_ble_eq_true rfl) dL_law_527 ?_
  refine z_aload_n C dL_law_530 rfl ?_
  refine z_aload_n C dL_law_531 rfl ?_
  refine z_iload_n C dL_law_532 rfl ?_
  refine z_iconst (1 : Int32) C dL_law_533 (by decide) ?_
  refine z_iadd C dL_law_534 ?_
  refine z_sld C X (sx_in (k := 1) (by omega) hL) dL_law_535 ?_
  refine z_callVi (As := [.int (xs (nI j + (1 : Int32)).toNatClampNeg)]) C (c_X11_sign l g h2) rfl O_31 rfl (gcV (fun _ h => h) tw_4_166 cw_X11_sign) rfl rfl rfl hy_X11_sign rfl ⟨(Nat.le_of_ble_eq_true rfl), (Nat.le_of_ble_eq_true rfl)⟩ (Nat.le_of_ble_eq_true rfl) dL_law_536 ?_
  refine z_icmp_eq 728 C dL_law_539 (by decide) (fun hc => ?_) (fun hc => ?_)
  · exact kk _ hJ
  · exact absurd he hc
set_option maxRecDepth 100000 in
set_option maxHeartbeats 4000000 in
theorem law_wipe {J : MM → Prop} (hop : op_wipe J) {l : Launch} {g : Gx} {x : Cx} {b L j : Nat} {xs : Nat → Int32} {M : MM} (hL : L ≤ 2560) (C : zC g x l RL cL_law TB room_1 4) (X : zX x b L xs) (hM : J M) (hj : j + 4 < L) (kk : ∀ M1 : MM, J M1 → zJ g x M1 728 [(0, .ref b), (1, .ref (ga g 0)), (2, .ref (ga g 31)), (3, .int (nI j))] []) : zJ g x M 544 [(0, .ref b), (1, .ref (ga g 0)), (2, .ref (ga g 31)), (3, .int (nI j))] [] := by
  obtain ⟨s1, h1, s2, h2, he, hJ⟩ := hop M hM 
  refine z_aload_n C dL_law_544 rfl ?_
  refine z_callVi (As := []) C (c_X10_wipe l g h1) rfl O_0 rfl (gcV (fun _ h => h) tw_3_91 cw_X10_wipe) rfl rfl rfl hy_X10_wipe rfl ⟨(Nat.le_of_ble_eq_true rfl), (Nat.le_of_ble_eq_true rfl)⟩ (Nat.le_of_ble_eq_true rfl) dL_law_545 ?_
  refine z_aload_n C dL_law_548 rfl ?_
  refine z_callVi (As := []) C (c_X11_wipe l g h2) rfl O_31 rfl (gcV (fun _ h => h) tw_4_171 cw_X11_wipe) rfl rfl rfl hy_X11_wipe rfl ⟨(Nat.le_of_ble_eq_true rfl), (Nat.le_of_ble_eq_true rfl)⟩ (Nat.le_of_ble_eq_true rfl) dL_law_549 ?_
  refine z_icmp_eq 728 C dL_law_552 (by decide) (fun hc => ?_) (fun hc => ?_)
  · exact kk _ hJ
  · exact absurd he hc
set_option maxRecDepth 100000 in
set_option maxHeartbeats 4000000 in
theorem law_drift {J : MM → Prop} (hop : op_drift J) {l : Launch} {g : Gx} {x : Cx} {b L j : Nat} {xs : Nat → Int32} {M : MM} (hL : L ≤ 2560) (C : zC g x l RL cL_law TB room_1 4) (X : zX x b L xs) (hM : J M) (hj : j + 4 < L) (kk : ∀ M1 : MM, J M1 → zJ g x M1 728 [(0, .ref b), (1, .ref (ga g 0)), (2, .ref (ga g 31)), (3, .int (nI j))] []) : zJ g x M 557 [(0, .ref b), (1, .ref (ga g 0)), (2, .ref (ga g 31)), (3, .int (nI j))] [] := by
  obtain ⟨s1, h1, s2, h2, he, hJ⟩ := hop M hM (xs (nI j + (1 : Int32)).toNatClampNeg)
  refine z_aload_n C dL_law_557 rfl ?_
  refine z_aload_n C dL_law_558 rfl ?_
  refine z_iload_n C dL_law_559 rfl ?_
  refine z_iconst (1 : Int32) C dL_law_560 (by decide) ?_
  refine z_iadd C dL_law_561 ?_
  refine z_sld C X (sx_in (k := 1) (by omega) hL) dL_law_562 ?_
  refine z_callVi (As := [.int (xs (nI j + (1 : Int32)).toNatClampNeg)]) C (c_X10_drift l g h1) rfl O_0 rfl (gcV (fun _ h => h) tw_3_99 cw_X10_drift) rfl rfl rfl hy_X10_drift rfl ⟨(Nat.le_of_ble_eq_true rfl), (Nat.le_of_ble_eq_true rfl)⟩ (Nat.le_of_ble_eq_true rfl) dL_law_563 ?_
  refine z_aload_n C dL_law_566 rfl ?_
  refine z_aload_n C dL_law_567 rfl ?_
  refine z_iload_n C dL_law_568 rfl ?_
  refine z_iconst (1 : Int32) C dL_law_569 (by decide) ?_
  refine z_iadd C dL_law_570 ?_
  refine z_sld C X (sx_in (k := 1) (by omega) hL) dL_law_571 ?_
  refine z_callVi (As := [.int (xs (nI j + (1 : Int32)).toNatClampNeg)]) C (c_X11_drift l g h2) rfl O_31 rfl (gcV (fun _ h => h) tw_4_175 cw_X11_drift) rfl rfl rfl hy_X11_drift rfl ⟨(Nat.le_of_ble_eq_true rfl), (Nat.le_of_ble_eq_true rfl)⟩ (Nat.le_of_ble_eq_true rfl) dL_law_572 ?_
  refine z_icmp_eq 728 C dL_law_575 (by decide) (fun hc => ?_) (fun hc => ?_)
  · exact kk _ hJ
  · exact absurd he hc
set_option maxRecDepth 100000 in
set_option maxHeartbeats 4000000 in
theorem law_undo {J : MM → Prop} (hop : op_undo J) {l : Launch} {g : Gx} {x : Cx} {b L j : Nat} {xs : Nat → Int32} {M : MM} (hL : L ≤ 2560) (C : zC g x l RL cL_law TB room_1 4) (X : zX x b L xs) (hM : J M) (hj : j + 4 < L) (kk : ∀ M1 : MM, J M1 → zJ g x M1 728 [(0, .ref b), (1, .ref (ga g 0)), (2, .ref (ga g 31)), (3, .int (nI j))] []) : zJ g x M 580 [(0, .ref b), (1, .ref (ga g 0)), (2, .ref (ga g 31)), (3, .int (nI j))] [] := by
  obtain ⟨s1, h1, s2, h2, he, hJ⟩ := hop M hM (xs (nI j + (1 : Int32)).toNatClampNeg)
  refine z_aload_n C dL_law_580 rfl ?_
  refine z_aload_n C dL_law_581 rfl ?_
  refine z_iload_n C dL_law_582 rfl ?_
  refine z_iconst (1 : Int32) C dL_law_583 (by decide) ?_
  refine z_iadd C dL_law_584 ?_
  refine z_sld C X (sx_in (k := 1) (by omega) hL) dL_law_585 ?_
  refine z_callVi (As := [.int (xs (nI j + (1 : Int32)).toNatClampNeg)]) C (c_X10_undo l g h1) rfl O_0 rfl (gcV (fun _ h => h) tw_3_118 cw_X10_undo) rfl rfl rfl hy_X10_undo rfl ⟨(Nat.le_of_ble_eq_true rfl), (Nat.le_of_ble_eq_true rfl)⟩ (Nat.le_of_ble_eq_true rfl) dL_law_586 ?_
  refine z_aload_n C dL_law_589 rfl ?_
  refine z_aload_n C dL_law_590 rfl ?_
  refine z_iload_n C dL_law_591 rfl ?_
  refine z_iconst (1 : Int32) C dL_law_592 (by decide) ?_
  refine z_iadd C dL_law_593 ?_
  refine z_sld C X (sx_in (k := 1) (by omega) hL) dL_law_594 ?_
  refine z_callVi (As := [.int (xs (nI j + (1 : Int32)).toNatClampNeg)]) C (c_X11_undo l g h2) rfl O_31 rfl (gcV (fun _ h => h) tw_4_188 cw_X11_undo) rfl rfl rfl hy_X11_undo rfl ⟨(Nat.le_of_ble_eq_true rfl), (Nat.le_of_ble_eq_true rfl)⟩ (Nat.le_of_ble_eq_true rfl) dL_law_595 ?_
  refine z_icmp_eq 728 C dL_law_598 (by decide) (fun hc => ?_) (fun hc => ?_)
  · exact kk _ hJ
  · exact absurd he hc
set_option maxRecDepth 100000 in
set_option maxHeartbeats 4000000 in
theorem law_write {J : MM → Prop} (hop : op_write J) {l : Launch} {g : Gx} {x : Cx} {b L j : Nat} {xs : Nat → Int32} {M : MM} (hL : L ≤ 2560) (C : zC g x l RL cL_law TB room_1 4) (X : zX x b L xs) (hM : J M) (hj : j + 4 < L) (kk : ∀ M1 : MM, J M1 → zJ g x M1 728 [(0, .ref b), (1, .ref (ga g 0)), (2, .ref (ga g 31)), (3, .int (nI j))] []) : zJ g x M 603 [(0, .ref b), (1, .ref (ga g 0)), (2, .ref (ga g 31)), (3, .int (nI j))] [] := by
  obtain ⟨s1, h1, s2, h2, he, hJ⟩ := hop M hM (xs (nI j + (1 : Int32)).toNatClampNeg) (xs (nI j + (2 : Int32)).toNatClampNeg) (xs (nI j + (3 : Int32)).toNatClampNeg)
  refine z_aload_n C dL_law_603 rfl ?_
  refine z_aload_n C dL_law_604 rfl ?_
  refine z_iload_n C dL_law_605 rfl ?_
  refine z_iconst (1 : Int32) C dL_law_606 (by decide) ?_
  refine z_iadd C dL_law_607 ?_
  refine z_sld C X (sx_in (k := 1) (by omega) hL) dL_law_608 ?_
  refine z_aload_n C dL_law_609 rfl ?_
  refine z_iload_n C dL_law_610 rfl ?_
  refine z_iconst (2 : Int32) C dL_law_611 (by decide) ?_
  refine z_iadd C dL_law_612 ?_
  refine z_sld C X (sx_in (k := 2) (by omega) hL) dL_law_613 ?_
  refine z_aload_n C dL_law_614 rfl ?_
  refine z_iload_n C dL_law_615 rfl ?_
  refine z_iconst (3 : Int32) C dL_law_616 (by decide) ?_
  refine z_iadd C dL_law_617 ?_
  refine z_sld C X (sx_in (k := 3) (by omega) hL) dL_law_618 ?_
  refine z_callVi (As := [.int (xs (nI j + (1 : Int32)).toNatClampNeg), .int (xs (nI j + (2 : Int32)).toNatClampNeg), .int (xs (nI j + (3 : Int32)).toNatClampNeg)]) C (c_X10_write l g h1) rfl O_0 rfl (gcV (fun _ h => h) tw_3_130 cw_X10_write) rfl rfl rfl hy_X10_write rfl ⟨(Nat.le_of_ble_eq_true rfl), (Nat.le_of_ble_eq_true rfl)⟩ (Nat.le_of_ble_eq_true rfl) dL_law_619 ?_
  refine z_aload_n C dL_law_622 rfl ?_
  refine z_aload_n C dL_law_623 rfl ?_
  refine z_iload_n C dL_law_624 rfl ?_
  refine z_iconst (1 : Int32) C dL_law_625 (by decide) ?_
  refine z_iadd C dL_law_626 ?_
  refine z_sld C X (sx_in (k := 1) (by omega) hL) dL_law_627 ?_
  refine z_aload_n C dL_law_628 rfl ?_
  refine z_iload_n C dL_law_629 rfl ?_
  refine z_iconst (2 : Int32) C dL_law_630 (by decide) ?_
  refine z_iadd C dL_law_631 ?_
  refine z_sld C X (sx_in (k := 2) (by omega) hL) dL_law_632 ?_
  refine z_aload_n C dL_law_633 rfl ?_
  refine z_iload_n C dL_law_634 rfl ?_
  refine z_iconst (3 : Int32) C dL_law_635 (by decide) ?_
  refine z_iadd C dL_law_636 ?_
  refine z_sld C X (sx_in (k := 3) (by omega) hL) dL_law_637 ?_
  refine z_callVi (As := [.int (xs (nI j + (1 : Int32)).toNatClampNeg), .int (xs (nI j + (2 : Int32)).toNatClampNeg), .int (xs (nI j + (3 : Int32)).toNatClampNeg)]) C (c_X11_write l g h2) rfl O_31 rfl (gcV (fun _ h => h) tw_4_193 cw_X11_write) rfl rfl rfl hy_X11_write rfl ⟨(Nat.le_of_ble_eq_true rfl), (Nat.le_of_ble_eq_true rfl)⟩ (Nat.le_of_ble_eq_true rfl) dL_law_638 ?_
  refine z_icmp_eq 728 C dL_law_641 (by decide) (fun hc => ?_) (fun hc => ?_)
  · exact kk _ hJ
  · exact absurd he hc
set_option maxRecDepth 100000 in
set_option maxHeartbeats 4000000 in
theorem law_tear {J : MM → Prop} (hop : op_tear J) {l : Launch} {g : Gx} {x : Cx} {b L j : Nat} {xs : Nat → Int32} {M : MM} (hL : L ≤ 2560) (C : zC g x l RL cL_law TB room_1 4) (X : zX x b L xs) (hM : J M) (hj : j + 4 < L) (kk : ∀ M1 : MM, J M1 → zJ g x M1 728 [(0, .ref b), (1, .ref (ga g 0)), (2, .ref (ga g 31)), (3, .int (nI j))] []) : zJ g x M 646 [(0, .ref b), (1, .ref (ga g 0)), (2, .ref (ga g 31)), (3, .int (nI j))] [] := by
  obtain ⟨s1, h1, s2, h2, he, hJ⟩ := hop M hM 
  refine z_aload_n C dL_law_646 rfl ?_
  refine z_callVi (As := []) C (c_X10_tear l g h1) rfl O_0 rfl (gcV (fun _ h => h) tw_3_138 cw_X10_tear) rfl rfl rfl hy_X10_tear rfl ⟨(Nat.le_of_ble_eq_true rfl), (Nat.le_of_ble_eq_true rfl)⟩ (Nat.le_of_ble_eq_true rfl) dL_law_647 ?_
  refine z_aload_n C dL_law_650 rfl ?_
  refine z_callVi (As := []) C (c_X11_tear l g h2) rfl O_31 rfl (gcV (fun _ h => h) tw_4_197 cw_X11_tear) rfl rfl rfl hy_X11_tear rfl ⟨(Nat.le_of_ble_eq_true rfl), (Nat.le_of_ble_eq_true rfl)⟩ (Nat.le_of_ble_eq_true rfl) dL_law_651 ?_
  refine z_icmp_eq 728 C dL_law_654 (by decide) (fun hc => ?_) (fun hc => ?_)
  · exact kk _ hJ
  · exact absurd he hc
set_option maxRecDepth 100000 in
set_option maxHeartbeats 4000000 in
theorem law_seed {J : MM → Prop} (hop : op_seed J) {l : Launch} {g : Gx} {x : Cx} {b L j : Nat} {xs : Nat → Int32} {M : MM} (hL : L ≤ 2560) (C : zC g x l RL cL_law TB room_1 4) (X : zX x b L xs) (hM : J M) (hj : j + 4 < L) (kk : ∀ M1 : MM, J M1 → zJ g x M1 728 [(0, .ref b), (1, .ref (ga g 0)), (2, .ref (ga g 31)), (3, .int (nI j))] []) : zJ g x M 659 [(0, .ref b), (1, .ref (ga g 0)), (2, .ref (ga g 31)), (3, .int (nI j))] [] := by
  obtain ⟨s1, h1, s2, h2, he, hJ⟩ := hop M hM (xs (nI j + (1 : Int32)).toNatClampNeg)
  refine z_aload_n C dL_law_659 rfl ?_
  refine z_aload_n C dL_law_660 rfl ?_
  refine z_iload_n C dL_law_661 rfl ?_
  refine z_iconst (1 : Int32) C dL_law_662 (by decide) ?_
  refine z_iadd C dL_law_663 ?_
  refine z_sld C X (sx_in (k := 1) (by omega) hL) dL_law_664 ?_
  refine z_callVi (As := [.int (xs (nI j + (1 : Int32)).toNatClampNeg)]) C (c_X10_seed l g h1) rfl O_0 rfl (gcV (fun _ h => h) tw_3_142 cw_X10_seed) rfl rfl rfl hy_X10_seed rfl ⟨(Nat.le_of_ble_eq_true rfl), (Nat.le_of_ble_eq_true rfl)⟩ (Nat.le_of_ble_eq_true rfl) dL_law_665 ?_
  refine z_aload_n C dL_law_668 rfl ?_
  refine z_aload_n C dL_law_669 rfl ?_
  refine z_iload_n C dL_law_670 rfl ?_
  refine z_iconst (1 : Int32) C dL_law_671 (by decide) ?_
  refine z_iadd C dL_law_672 ?_
  refine z_sld C X (sx_in (k := 1) (by omega) hL) dL_law_673 ?_
  refine z_callVi (As := [.int (xs (nI j + (1 : Int32)).toNatClampNeg)]) C (c_X11_seed l g h2) rfl O_31 rfl (gcV (fun _ h => h) tw_4_201 cw_X11_seed) rfl rfl rfl hy_X11_seed rfl ⟨(Nat.le_of_ble_eq_true rfl), (Nat.le_of_ble_eq_true rfl)⟩ (Nat.le_of_ble_eq_true rfl) dL_law_674 ?_
  refine z_icmp_eq 728 C dL_law_677 (by decide) (fun hc => ?_) (fun hc => ?_)
  · exact kk _ hJ
  · exact absurd he hc
set_option maxRecDepth 100000 in
set_option maxHeartbeats 4000000 in
theorem law_keep {J : MM → Prop} (hop : op_keep J) {l : Launch} {g : Gx} {x : Cx} {b L j : Nat} {xs : Nat → Int32} {M : MM} (hL : L ≤ 2560) (C : zC g x l RL cL_law TB room_1 4) (X : zX x b L xs) (hM : J M) (hj : j + 4 < L) (kk : ∀ M1 : MM, J M1 → zJ g x M1 728 [(0, .ref b), (1, .ref (ga g 0)), (2, .ref (ga g 31)), (3, .int (nI j))] []) : zJ g x M 682 [(0, .ref b), (1, .ref (ga g 0)), (2, .ref (ga g 31)), (3, .int (nI j))] [] := by
  obtain ⟨s1, h1, s2, h2, he, hJ⟩ := hop M hM (xs (nI j + (1 : Int32)).toNatClampNeg)
  refine z_aload_n C dL_law_682 rfl ?_
  refine z_aload_n C dL_law_683 rfl ?_
  refine z_iload_n C dL_law_684 rfl ?_
  refine z_iconst (1 : Int32) C dL_law_685 (by decide) ?_
  refine z_iadd C dL_law_686 ?_
  refine z_sld C X (sx_in (k := 1) (by omega) hL) dL_law_687 ?_
  refine z_callVi (As := [.int (xs (nI j + (1 : Int32)).toNatClampNeg)]) C (c_X10_keep l g h1) rfl O_0 rfl (gcV (fun _ h => h) tw_3_146 cw_X10_keep) rfl rfl rfl hy_X10_keep rfl ⟨(Nat.le_of_ble_eq_true rfl), (Nat.le_of_ble_eq_true rfl)⟩ (Nat.le_of_ble_eq_true rfl) dL_law_688 ?_
  refine z_aload_n C dL_law_691 rfl ?_
  refine z_aload_n C dL_law_692 rfl ?_
  refine z_iload_n C dL_law_693 rfl ?_
  refine z_iconst (1 : Int32) C dL_law_694 (by decide) ?_
  refine z_iadd C dL_law_695 ?_
  refine z_sld C X (sx_in (k := 1) (by omega) hL) dL_law_696 ?_
  refine z_callVi (As := [.int (xs (nI j + (1 : Int32)).toNatClampNeg)]) C (c_X11_keep l g h2) rfl O_31 rfl (gcV (fun _ h => h) tw_4_205 cw_X11_keep) rfl rfl rfl hy_X11_keep rfl ⟨(Nat.le_of_ble_eq_true rfl), (Nat.le_of_ble_eq_true rfl)⟩ (Nat.le_of_ble_eq_true rfl) dL_law_697 ?_
  refine z_icmp_eq 728 C dL_law_700 (by decide) (fun hc => ?_) (fun hc => ?_)
  · exact kk _ hJ
  · exact absurd he hc
set_option maxRecDepth 100000 in
set_option maxHeartbeats 4000000 in
theorem law_goBack {J : MM → Prop} (hop : op_goBack J) {l : Launch} {g : Gx} {x : Cx} {b L j : Nat} {xs : Nat → Int32} {M : MM} (hL : L ≤ 2560) (C : zC g x l RL cL_law TB room_1 4) (X : zX x b L xs) (hM : J M) (hj : j + 4 < L) (kk : ∀ M1 : MM, J M1 → zJ g x M1 728 [(0, .ref b), (1, .ref (ga g 0)), (2, .ref (ga g 31)), (3, .int (nI j))] []) : zJ g x M 705 [(0, .ref b), (1, .ref (ga g 0)), (2, .ref (ga g 31)), (3, .int (nI j))] [] := by
  obtain ⟨s1, h1, s2, h2, he, hJ⟩ := hop M hM (xs (nI j + (1 : Int32)).toNatClampNeg)
  refine z_aload_n C dL_law_705 rfl ?_
  refine z_aload_n C dL_law_706 rfl ?_
  refine z_iload_n C dL_law_707 rfl ?_
  refine z_iconst (1 : Int32) C dL_law_708 (by decide) ?_
  refine z_iadd C dL_law_709 ?_
  refine z_sld C X (sx_in (k := 1) (by omega) hL) dL_law_710 ?_
  refine z_callVi (As := [.int (xs (nI j + (1 : Int32)).toNatClampNeg)]) C (c_X10_goBack l g h1) rfl O_0 rfl (gcV (fun _ h => h) tw_3_155 cw_X10_goBack) rfl rfl rfl hy_X10_goBack rfl ⟨(Nat.le_of_ble_eq_true rfl), (Nat.le_of_ble_eq_true rfl)⟩ (Nat.le_of_ble_eq_true rfl) dL_law_711 ?_
  refine z_aload_n C dL_law_714 rfl ?_
  refine z_aload_n C dL_law_715 rfl ?_
  refine z_iload_n C dL_law_716 rfl ?_
  refine z_iconst (1 : Int32) C dL_law_717 (by decide) ?_
  refine z_iadd C dL_law_718 ?_
  refine z_sld C X (sx_in (k := 1) (by omega) hL) dL_law_719 ?_
  refine z_callVi (As := [.int (xs (nI j + (1 : Int32)).toNatClampNeg)]) C (c_X11_goBack l g h2) rfl O_31 rfl (gcV (fun _ h => h) tw_4_209 cw_X11_goBack) rfl rfl rfl hy_X11_goBack rfl ⟨(Nat.le_of_ble_eq_true rfl), (Nat.le_of_ble_eq_true rfl)⟩ (Nat.le_of_ble_eq_true rfl) dL_law_720 ?_
  refine z_icmp_eq 728 C dL_law_723 (by decide) (fun hc => ?_) (fun hc => ?_)
  · exact kk _ hJ
  · exact absurd he hc
set_option maxRecDepth 100000 in
set_option maxHeartbeats 4000000 in
theorem law_loop {J : MM → Prop} (hop : opOK J) {l : Launch} {g : Gx} {x : Cx} {b L : Nat} {xs : Nat → Int32} (hL : L ≤ 2560) (C : zC g x l RL cL_law TB room_1 4) (X : zX x b L xs) (E : zE x b) : ∀ (n j : Nat) (M : MM), J M → j ≤ L → L + 1 ≤ j + n → zJ g x M 18 [(0, .ref b), (1, .ref (ga g 0)), (2, .ref (ga g 31)), (3, .int (nI j))] [] := by
  obtain ⟨o0, o1, o2, o3, o4, o5, o6, o7, o8, o9, o10, o11, o12, o13, o14, o15, o16, o17, o18, o19⟩ := hop
  intro n
  induction n with
  | zero => intro j M hM h1 h2; exact absurd h2 (by omega)
  | succ n ih =>
    intro j M hM hjL hjn
    refine z_iload_n C dL_law_18 rfl ?_
    refine z_aload_n C dL_law_19 rfl ?_
    refine z_slen C X dL_law_20 ?_
    refine z_iconst (5 : Int32) C dL_law_21 (by decide) ?_
    refine z_isub C dL_law_22 ?_
    refine z_icmp_gt 734 C dL_law_23 (by decide) (fun hc => ?_) (fun hc => ?_)
    · refine z_iconst (1 : Int32) C dL_law_734 (by decide) ?_
      exact z_lret C E dL_law_735
    · have hj : j + 4 < L := by
        have h5 : (nI L - (5 : Int32)).toInt = (L : Int) - 5 := pk_sub_toInt (a := L) (b := 5) (by omega) (by decide)
        have h6 : (nI j).toInt = (j : Int) := nI_toInt (by omega)
        rw [Int32.lt_iff_toInt_lt, h5, h6] at hc
        omega
      have kk : ∀ M1 : MM, J M1 → zJ g x M1 728 [(0, .ref b), (1, .ref (ga g 0)), (2, .ref (ga g 31)), (3, .int (nI j))] [] := by
        intro M1 hM1
        refine z_iinc (v := nI (j + 5)) [(3, .int (nI (j + 5))), (0, .ref b), (1, .ref (ga g 0)), (2, .ref (ga g 31))] C dL_law_728 rfl (nI_add j 5) (by decide) rfl ?_
        refine z_goto 18 C dL_law_731 (by decide) ?_
        refine z_sub [1, 2, 3, 0] rfl ?_
        exact ih (j + 5) M1 hM1 (by omega) (by omega)
      refine z_aload_n C dL_law_26 rfl ?_
      refine z_iload_n C dL_law_27 rfl ?_
      refine z_sld C X (nI_in (by omega) (by omega)) dL_law_28 ?_
      refine z_bipush (31 : Int32) C dL_law_29 (by decide) ?_
      refine z_iand C dL_law_31 ?_
      generalize xs (nI j).toNatClampNeg &&& (31 : Int32) = u
      by_cases hs0 : u = (0 : Int32)
      · refine z_tableIn 128 C dL_law_32 (by rw [hs0]; decide) (by rw [hs0]; decide) (by rw [hs0]; rfl) (by decide) ?_
        exact law_told o0 hL C X hM hj kk
      by_cases hs1 : u = (1 : Int32)
      · refine z_tableIn 151 C dL_law_32 (by rw [hs1]; decide) (by rw [hs1]; decide) (by rw [hs1]; rfl) (by decide) ?_
        exact law_person o1 hL C X hM hj kk
      by_cases hs2 : u = (2 : Int32)
      · refine z_tableIn 184 C dL_law_32 (by rw [hs2]; decide) (by rw [hs2]; decide) (by rw [hs2]; rfl) (by decide) ?_
        exact law_quarter o2 hL C X hM hj kk
      by_cases hs3 : u = (3 : Int32)
      · refine z_tableIn 227 C dL_law_32 (by rw [hs3]; decide) (by rw [hs3]; decide) (by rw [hs3]; rfl) (by decide) ?_
        exact law_kin o3 hL C X hM hj kk
      by_cases hs4 : u = (4 : Int32)
      · refine z_tableIn 270 C dL_law_32 (by rw [hs4]; decide) (by rw [hs4]; decide) (by rw [hs4]; rfl) (by decide) ?_
        exact law_would o4 hL C X hM hj kk
      by_cases hs5 : u = (5 : Int32)
      · refine z_tableIn 303 C dL_law_32 (by rw [hs5]; decide) (by rw [hs5]; decide) (by rw [hs5]; rfl) (by decide) ?_
        exact law_dated o5 hL C X hM hj kk
      by_cases hs6 : u = (6 : Int32)
      · refine z_tableIn 336 C dL_law_32 (by rw [hs6]; decide) (by rw [hs6]; decide) (by rw [hs6]; rfl) (by decide) ?_
        exact law_signAt o6 hL C X hM hj kk
      by_cases hs7 : u = (7 : Int32)
      · refine z_tableIn 359 C dL_law_32 (by rw [hs7]; decide) (by rw [hs7]; decide) (by rw [hs7]; rfl) (by decide) ?_
        exact law_put o7 hL C X hM hj kk
      by_cases hs8 : u = (8 : Int32)
      · refine z_tableIn 412 C dL_law_32 (by rw [hs8]; decide) (by rw [hs8]; decide) (by rw [hs8]; rfl) (by decide) ?_
        exact law_born o8 hL C X hM hj kk
      by_cases hs9 : u = (9 : Int32)
      · refine z_tableIn 455 C dL_law_32 (by rw [hs9]; decide) (by rw [hs9]; decide) (by rw [hs9]; rfl) (by decide) ?_
        exact law_died o9 hL C X hM hj kk
      by_cases hs10 : u = (10 : Int32)
      · refine z_tableIn 498 C dL_law_32 (by rw [hs10]; decide) (by rw [hs10]; decide) (by rw [hs10]; rfl) (by decide) ?_
        exact law_rule o10 hL C X hM hj kk
      by_cases hs11 : u = (11 : Int32)
      · refine z_tableIn 521 C dL_law_32 (by rw [hs11]; decide) (by rw [hs11]; decide) (by rw [hs11]; rfl) (by decide) ?_
        exact law_sign o11 hL C X hM hj kk
      by_cases hs12 : u = (12 : Int32)
      · refine z_tableIn 544 C dL_law_32 (by rw [hs12]; decide) (by rw [hs12]; decide) (by rw [hs12]; rfl) (by decide) ?_
        exact law_wipe o12 hL C X hM hj kk
      by_cases hs13 : u = (13 : Int32)
      · refine z_tableIn 557 C dL_law_32 (by rw [hs13]; decide) (by rw [hs13]; decide) (by rw [hs13]; rfl) (by decide) ?_
        exact law_drift o13 hL C X hM hj kk
      by_cases hs14 : u = (14 : Int32)
      · refine z_tableIn 580 C dL_law_32 (by rw [hs14]; decide) (by rw [hs14]; decide) (by rw [hs14]; rfl) (by decide) ?_
        exact law_undo o14 hL C X hM hj kk
      by_cases hs15 : u = (15 : Int32)
      · refine z_tableIn 603 C dL_law_32 (by rw [hs15]; decide) (by rw [hs15]; decide) (by rw [hs15]; rfl) (by decide) ?_
        exact law_write o15 hL C X hM hj kk
      by_cases hs16 : u = (16 : Int32)
      · refine z_tableIn 646 C dL_law_32 (by rw [hs16]; decide) (by rw [hs16]; decide) (by rw [hs16]; rfl) (by decide) ?_
        exact law_tear o16 hL C X hM hj kk
      by_cases hs17 : u = (17 : Int32)
      · refine z_tableIn 659 C dL_law_32 (by rw [hs17]; decide) (by rw [hs17]; decide) (by rw [hs17]; rfl) (by decide) ?_
        exact law_seed o17 hL C X hM hj kk
      by_cases hs18 : u = (18 : Int32)
      · refine z_tableIn 682 C dL_law_32 (by rw [hs18]; decide) (by rw [hs18]; decide) (by rw [hs18]; rfl) (by decide) ?_
        exact law_keep o18 hL C X hM hj kk
      by_cases hs19 : u = (19 : Int32)
      · refine z_tableIn 705 C dL_law_32 (by rw [hs19]; decide) (by rw [hs19]; decide) (by rw [hs19]; rfl) (by decide) ?_
        exact law_goBack o19 hL C X hM hj kk
      refine z_tableOut 728 C dL_law_32 (sw_out20 hs0 hs1 hs2 hs3 hs4 hs5 hs6 hs7 hs8 hs9 hs10 hs11 hs12 hs13 hs14 hs15 hs16 hs17 hs18 hs19) (by decide) ?_
      exact kk M hM
