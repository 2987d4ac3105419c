set_option maxRecDepth 20000 in
theorem tw_1_16 : Cond.instantiable RX10 9 ∈ TB := tb_1 (List.mem_of_getElem? (l := tables_1_1) (i := 16) rfl) rfl
set_option maxRecDepth 20000 in
theorem tw_3_170 : Cond.instantiable RX11 18 ∈ TB := tb_3 (List.mem_of_getElem? (l := tables_1_3) (i := 170) rfl) rfl
set_option maxRecDepth 20000 in
theorem tw_1_15 : Cond.classLink RL 7 RX10 ∈ TB := tb_1 (List.mem_of_getElem? (l := tables_1_1) (i := 15) rfl) rfl
set_option maxRecDepth 20000 in
theorem tw_1_17 : Cond.methodLink RL 9 yX10_init ∈ TB := tb_1 (List.mem_of_getElem? (l := tables_1_1) (i := 17) rfl) rfl
set_option maxRecDepth 20000 in
theorem tw_1_18 : Cond.instanceMethod yX10_init ∈ TB := tb_1 (List.mem_of_getElem? (l := tables_1_1) (i := 18) rfl) rfl
set_option maxRecDepth 20000 in
theorem tw_3_169 : Cond.classLink RL 10 RX11 ∈ TB := tb_3 (List.mem_of_getElem? (l := tables_1_3) (i := 169) rfl) rfl
set_option maxRecDepth 20000 in
theorem tw_3_171 : Cond.methodLink RL 12 yX11_init ∈ TB := tb_3 (List.mem_of_getElem? (l := tables_1_3) (i := 171) rfl) rfl
set_option maxRecDepth 20000 in
theorem tw_3_172 : Cond.instanceMethod yX11_init ∈ TB := tb_3 (List.mem_of_getElem? (l := tables_1_3) (i := 172) rfl) rfl
/-- what the cells hold at first -/
def M0 : MM := fun q j => if q = 5 then (if j = 2 then -1 else if j = 3 then -1 else 0) else if q = 25 then (if j = 0 then 20 else 0) else if q = 26 then (if j = 0 then 2 else 0) else 0
theorem y_to_z {D : va_G} {a : Nat → Nat} {cI cZ : ClassId} {x : Cx} {w : va_W} {kc ks pc : Nat} {lv : List (Nat × Value)} {st : List Value} {M : MM} (ps : List Nat) (hnd : va_nd ps = true) (hw : ps.filterMap (fun i => w[i]?) = wd (D, a, cI, cZ) M) (hw2 : ps.map (fun i => w[i]?) = (wd (D, a, cI, cZ) M).map some)
    (hx : match x with | (_, _, _, _, _, _, _, _, _, _, _, _, cells, slots, _) => cells = kc ∧ slots = ks)
    (k : (match x with | (_, _, _, _, _, _, _, _, _, _, A, _, _, _, _) => ∀ M1 : MM, va_D A (wd (D, a, cI, cZ) M1)) → zJ (D, a, cI, cZ) x M pc lv st) : yJ D x w kc ks pc lv st := by
  obtain ⟨p, l, e, R, s, m, args, below, meth, c, A, nL, cells, slots, Q⟩ := x
  obtain ⟨rfl, rfl⟩ := hx
  intro H locs ls hP hD hS hl
  exact k (fun M1 => wd_D (hD.sub ps hnd hw2) M1) H locs ls (hP.sub ps hw) hS hl
set_option maxRecDepth 100000 in
set_option maxHeartbeats 8000000 in
theorem start_of {J : MM → Prop} (hop : opOK J) (hJ : J M0) {p : Program} {e : Env} {s : State} {m : MethodId} {below : List Frame} {meth : Method} {c : Code} (l : Launch) {b L : Nat} {xs : Nat → Int32} (hL : L ≤ 2560) (C0 : lw_At p s m meth c b L xs) : W p l e room_1 s m #[Value.ref b] below meth c s.heap [] 0 0 (lw_Z below #[Value.ref b] s) (entryFrame m ([Value.ref b] : List Value).toArray 4) := by
  obtain ⟨hx, hb, hr, hml, hown, hts, hX, hbl, hlocks, hgv⟩ := id C0
  have htb : ∀ w ∈ TB, w.before #[Value.ref b] s = true := fun w h => hts w (List.mem_filter.mp h).1
  obtain ⟨c0, iS0, hKn0⟩ := u_known (C := RX0) (T := TX0) (N := 4) (n := 4) htb inX0 (htb _ tw_1_122)
  obtain ⟨c1, iS1, hKn1⟩ := u_known (C := RX1) (T := TX1) (N := 5) (n := 5) htb inX1 (htb _ tw_1_36)
  obtain ⟨c2, iS2, hKn2⟩ := u_known (C := RX2) (T := TX2) (N := 1) (n := 1) htb inX2 (htb _ tw_1_194)
  obtain ⟨c3, iS3, hKn3⟩ := u_known (C := RX3) (T := TX3) (N := 3) (n := 3) htb inX3 (htb _ tw_1_175)
  obtain ⟨c4, iS4, hKn4⟩ := u_known (C := RX4) (T := TX4) (N := 4) (n := 4) htb inX4 (htb _ tw_1_101)
  obtain ⟨c5, iS5, hKn5⟩ := u_known (C := RX5) (T := TX5) (N := 3) (n := 3) htb inX5 (htb _ tw_1_142)
  obtain ⟨c6, iS6, hKn6⟩ := u_known (C := RX6) (T := TX6) (N := 2) (n := 2) htb inX6 (htb _ tw_1_148)
  obtain ⟨c7, iS7, hKn7⟩ := u_known (C := RX7) (T := TX7) (N := 1) (n := 1) htb inX7 (htb _ tw_1_24)
  obtain ⟨c8, iS8, hKn8⟩ := u_known (C := RX8) (T := TX8) (N := 1) (n := 1) htb inX8 (htb _ tw_1_91)
  obtain ⟨c9, iS9, hKn9⟩ := u_known (C := RX9) (T := TX9) (N := 8) (n := 8) htb inX9 (htb _ tw_1_60)
  obtain ⟨c10, iS10, hKn10⟩ := u_known (C := RX10) (T := TX10) (N := 9) (n := 9) htb inX10 (htb _ tw_1_16)
  obtain ⟨c11, iS11, hKn11⟩ := u_known (C := RX11) (T := TX11) (N := 18) (n := 18) htb inX11 (htb _ tw_3_170)
  obtain ⟨dC, dI, hKc⟩ : ∃ (dC : Nat → ClassId) (dI : Nat → Nat → Nat), ∀ (k : Nat) (q : vw_C), vwCl[k]? = some q → u_Kn s q.1 q.2.1 q.2.2 (dC k) (dI k) := by
    refine ⟨fun k => match k with | 0 => c0 | 1 => c1 | 2 => c2 | 3 => c3 | 4 => c4 | 5 => c5 | 6 => c6 | 7 => c7 | 8 => c8 | 9 => c9 | 10 => c10 | _ => c11, fun k => match k with | 0 => iS0 | 1 => iS1 | 2 => iS2 | 3 => iS3 | 4 => iS4 | 5 => iS5 | 6 => iS6 | 7 => iS7 | 8 => iS8 | 9 => iS9 | 10 => iS10 | _ => iS11, ?_⟩
    intro k q hq
    match k, hq with
    | 0, hq => cases hq; exact hKn0
    | 1, hq => cases hq; exact hKn1
    | 2, hq => cases hq; exact hKn2
    | 3, hq => cases hq; exact hKn3
    | 4, hq => cases hq; exact hKn4
    | 5, hq => cases hq; exact hKn5
    | 6, hq => cases hq; exact hKn6
    | 7, hq => cases hq; exact hKn7
    | 8, hq => cases hq; exact hKn8
    | 9, hq => cases hq; exact hKn9
    | 10, hq => cases hq; exact hKn10
    | 11, hq => cases hq; exact hKn11
    | k + 12, hq => simp [vwCl] at hq
  obtain ⟨cI, kI, cmI, hI1, hI2, hI3⟩ := Cond.arrayClass_spec (htb _ tw_1_34)
  obtain ⟨cZ, kZ, cmZ, hZ1, hZ2, hZ3⟩ := Cond.arrayClass_spec (htb _ tw_1_192)
  have hK : va_K (dC, dI) vwCl [(cI, .int), (cZ, .boolean)] s := by
    refine ⟨hKc, fun k q hk => ?_⟩
    match k, hk with
    | 0, hk => cases hk; exact ⟨fun n z => ⟨fun k h => (by cases h), kI, hI2, cmI, hI3⟩, hI1⟩
    | 1, hk => cases hk; exact ⟨fun n z => ⟨fun k h => (by cases h), kZ, hZ2, cmZ, hZ3⟩, hZ1⟩
    | k + 2, hk => simp at hk
  have hl := lv_entry ([.ref b]) (n := 4) (Nat.le_of_ble_eq_true rfl)
  rw [lg_entry_eq]
  generalize (lg_sl ([.ref b]) ++ List.replicate (4 - (lg_sl ([.ref b])).length) Slot.unset).toArray = ls at hl ⊢
  obtain ⟨x, hxe⟩ : ∃ x : Cx, x = (p, l, e, room_1, s, m, #[Value.ref b], below, meth, c, (fun q : Nat => s.heap.size ≤ q), 4, 46, 7939, lw_Z below #[Value.ref b] s) := ⟨_, rfl⟩
  have C : yC (dC, dI) cI cZ x l RL cL_law TB room_1 4 := by
    subst hxe
    exact ⟨rfl, rfl, rfl, hx, hb, hml, hown, htb, hK, fun _ h => h⟩
  have go : yJ (dC, dI) x [] 0 0 0 [(0, .ref b)] [] := by
    refine y_new tyX10 (fs := [.null, .null, .null, .null, .null, .null, .null, .null, .null]) (fun q0 => [(q0, .inr (10, [.null, .null, .null, .null, .null, .null, .null, .null, .null]))]) C inX10 tyX10_ok tw_1_15 tw_1_16 tw_1_1 rfl (fun j hj => by rcases (show j = 0 ∨ j = 1 ∨ j = 2 ∨ j = 3 ∨ j = 4 ∨ j = 5 ∨ j = 6 ∨ j = 7 ∨ j = 8 by omega) with rfl | rfl | rfl | rfl | rfl | rfl | rfl | rfl | rfl <;> rfl) (Nat.le_of_ble_eq_true rfl) (Nat.le_of_ble_eq_true rfl) dL_law_0 (fun _ => rfl) (fun q0 => ?_)
    refine y_dup C dL_law_3 rfl ?_
    refine y_callI (As := []) (wr := []) [0] [] (fun u => [(q0, .inr (10, [.ref (u 0), .ref (u 2), .ref (u 6), .ref (u 12), .ref (u 14), .ref (u 17), .ref (u 21), .ref (u 24), .ref (u 29)])), (u 0, .inr (7, [.ref (u 1)])), (u 1, .inl (cI, 141, .inl (fun _ => 0))), (u 2, .inr (1, [.ref (u 3), .ref (u 4), .ref (u 5), .int 0, .int 0])), (u 3, .inl (cI, 17, .inl (fun _ => 0))), (u 4, .inl (cI, 170, .inl (fun _ => 0))), (u 5, .inl (cI, 170, .inl (fun _ => 0))), (u 6, .inr (9, [.ref (u 7), .ref (u 8), .ref (u 9), .ref (u 10), .ref (u 11), .int 0, .int 0, .int 0])), (u 7, .inl (cI, 32, .inl (fun _ => 0))), (u 8, .inl (cI, 32, .inl (fun _ => 0))), (u 9, .inl (cI, 112, .inl (fun _ => 0))), (u 10, .inl (cI, 112, .inl (fun _ => 0))), (u 11, .inl (cI, 112, .inl (fun _ => 0))), (u 12, .inr (8, [.ref (u 13)])), (u 13, .inl (cI, 11, .inl (fun _ => 0))), (u 14, .inr (4, [.ref (u 15), .ref (u 16), .int (-1 : Int32), .int (-1 : Int32)])), (u 15, .inl (cI, 16, .inl (fun _ => 0))), (u 16, .inl (cI, 16, .inl (fun _ => 0))), (u 17, .inr (0, [.ref (u 18), .ref (u 19), .ref (u 20), .int 0])), (u 18, .inl (cI, 20, .inl (fun _ => 0))), (u 19, .inl (cI, 20, .inl (fun _ => 0))), (u 20, .inl (cI, 20, .inl (fun _ => 0))), (u 21, .inr (5, [.ref (u 22), .int 0, .int 0])), (u 22, .inr (6, [.int (20 : Int32), .ref (u 23)])), (u 23, .inl (cI, 2820, .inl (fun _ => 0))), (u 24, .inr (3, [.ref (u 25), .ref (u 27), .ref (u 28)])), (u 25, .inr (6, [.int (2 : Int32), .ref (u 26)])), (u 26, .inl (cI, 282, .inl (fun _ => 0))), (u 27, .inl (cI, 2, .inl (fun _ => 0))), (u 28, .inl (cZ, 2, .inl (fun _ => 0))), (u 29, .inr (2, [.int (0 : Int32)]))]) C (mk_X10_init l (dC, dI) cI cZ q0) rfl (gcI (fun _ h => h) tw_1_19) rfl rfl rfl tw_1_1 tw_1_17 tw_1_18 rfl hy_X10_init rfl ⟨(Nat.le_of_ble_eq_true rfl), (Nat.le_of_ble_eq_true rfl)⟩ (Nat.le_of_ble_eq_true rfl) dL_law_4 ⟨(Nat.le_of_ble_eq_true rfl), (Nat.le_of_ble_eq_true rfl)⟩ rfl rfl (by decide) (by decide) (by decide) (fun _ => rfl) (fun u => ?_)
    refine y_astore_n [(1, .ref q0), (0, .ref b)] C dL_law_7 (by decide) rfl ?_
    refine y_new tyX11 (fs := [.null, .null, .null, .int 0, .int 0, .int 0, .null, .null, .null, .null, .null, .null, .null, .null, .int 0, .null, .null, .null]) (fun q8 => [(q0, .inr (10, [.ref (u 0), .ref (u 2), .ref (u 6), .ref (u 12), .ref (u 14), .ref (u 17), .ref (u 21), .ref (u 24), .ref (u 29)])), (u 0, .inr (7, [.ref (u 1)])), (u 1, .inl (cI, 141, .inl (fun _ => 0))), (u 2, .inr (1, [.ref (u 3), .ref (u 4), .ref (u 5), .int 0, .int 0])), (u 3, .inl (cI, 17, .inl (fun _ => 0))), (u 4, .inl (cI, 170, .inl (fun _ => 0))), (u 5, .inl (cI, 170, .inl (fun _ => 0))), (u 6, .inr (9, [.ref (u 7), .ref (u 8), .ref (u 9), .ref (u 10), .ref (u 11), .int 0, .int 0, .int 0])), (u 7, .inl (cI, 32, .inl (fun _ => 0))), (u 8, .inl (cI, 32, .inl (fun _ => 0))), (u 9, .inl (cI, 112, .inl (fun _ => 0))), (u 10, .inl (cI, 112, .inl (fun _ => 0))), (u 11, .inl (cI, 112, .inl (fun _ => 0))), (u 12, .inr (8, [.ref (u 13)])), (u 13, .inl (cI, 11, .inl (fun _ => 0))), (u 14, .inr (4, [.ref (u 15), .ref (u 16), .int (-1 : Int32), .int (-1 : Int32)])), (u 15, .inl (cI, 16, .inl (fun _ => 0))), (u 16, .inl (cI, 16, .inl (fun _ => 0))), (u 17, .inr (0, [.ref (u 18), .ref (u 19), .ref (u 20), .int 0])), (u 18, .inl (cI, 20, .inl (fun _ => 0))), (u 19, .inl (cI, 20, .inl (fun _ => 0))), (u 20, .inl (cI, 20, .inl (fun _ => 0))), (u 21, .inr (5, [.ref (u 22), .int 0, .int 0])), (u 22, .inr (6, [.int (20 : Int32), .ref (u 23)])), (u 23, .inl (cI, 2820, .inl (fun _ => 0))), (u 24, .inr (3, [.ref (u 25), .ref (u 27), .ref (u 28)])), (u 25, .inr (6, [.int (2 : Int32), .ref (u 26)])), (u 26, .inl (cI, 282, .inl (fun _ => 0))), (u 27, .inl (cI, 2, .inl (fun _ => 0))), (u 28, .inl (cZ, 2, .inl (fun _ => 0))), (u 29, .inr (2, [.int (0 : Int32)])), (q8, .inr (11, [.null, .null, .null, .int 0, .int 0, .int 0, .null, .null, .null, .null, .null, .null, .null, .null, .int 0, .null, .null, .null]))]) C inX11 tyX11_ok tw_3_169 tw_3_170 tw_1_13 rfl (fun j hj => by rcases (show j = 0 ∨ j = 1 ∨ j = 2 ∨ j = 3 ∨ j = 4 ∨ j = 5 ∨ j = 6 ∨ j = 7 ∨ j = 8 ∨ j = 9 ∨ j = 10 ∨ j = 11 ∨ j = 12 ∨ j = 13 ∨ j = 14 ∨ j = 15 ∨ j = 16 ∨ j = 17 by omega) with rfl | rfl | rfl | rfl | rfl | rfl | rfl | rfl | rfl | rfl | rfl | rfl | rfl | rfl | rfl | rfl | rfl | rfl <;> rfl) (Nat.le_of_ble_eq_true rfl) (Nat.le_of_ble_eq_true rfl) dL_law_8 (fun _ => rfl) (fun q8 => ?_)
    refine y_dup C dL_law_11 rfl ?_
    refine y_callI (As := []) (wr := [(q0, .inr (10, [.ref (u 0), .ref (u 2), .ref (u 6), .ref (u 12), .ref (u 14), .ref (u 17), .ref (u 21), .ref (u 24), .ref (u 29)])), (u 0, .inr (7, [.ref (u 1)])), (u 1, .inl (cI, 141, .inl (fun _ => 0))), (u 2, .inr (1, [.ref (u 3), .ref (u 4), .ref (u 5), .int 0, .int 0])), (u 3, .inl (cI, 17, .inl (fun _ => 0))), (u 4, .inl (cI, 170, .inl (fun _ => 0))), (u 5, .inl (cI, 170, .inl (fun _ => 0))), (u 6, .inr (9, [.ref (u 7), .ref (u 8), .ref (u 9), .ref (u 10), .ref (u 11), .int 0, .int 0, .int 0])), (u 7, .inl (cI, 32, .inl (fun _ => 0))), (u 8, .inl (cI, 32, .inl (fun _ => 0))), (u 9, .inl (cI, 112, .inl (fun _ => 0))), (u 10, .inl (cI, 112, .inl (fun _ => 0))), (u 11, .inl (cI, 112, .inl (fun _ => 0))), (u 12, .inr (8, [.ref (u 13)])), (u 13, .inl (cI, 11, .inl (fun _ => 0))), (u 14, .inr (4, [.ref (u 15), .ref (u 16), .int (-1 : Int32), .int (-1 : Int32)])), (u 15, .inl (cI, 16, .inl (fun _ => 0))), (u 16, .inl (cI, 16, .inl (fun _ => 0))), (u 17, .inr (0, [.ref (u 18), .ref (u 19), .ref (u 20), .int 0])), (u 18, .inl (cI, 20, .inl (fun _ => 0))), (u 19, .inl (cI, 20, .inl (fun _ => 0))), (u 20, .inl (cI, 20, .inl (fun _ => 0))), (u 21, .inr (5, [.ref (u 22), .int 0, .int 0])), (u 22, .inr (6, [.int (20 : Int32), .ref (u 23)])), (u 23, .inl (cI, 2820, .inl (fun _ => 0))), (u 24, .inr (3, [.ref (u 25), .ref (u 27), .ref (u 28)])), (u 25, .inr (6, [.int (2 : Int32), .ref (u 26)])), (u 26, .inl (cI, 282, .inl (fun _ => 0))), (u 27, .inl (cI, 2, .inl (fun _ => 0))), (u 28, .inl (cZ, 2, .inl (fun _ => 0))), (u 29, .inr (2, [.int (0 : Int32)]))]) [31] [0, 1, 2, 3, 4, 5, 6, 7, 8, 9, 10, 11, 12, 13, 14, 15, 16, 17, 18, 19, 20, 21, 22, 23, 24, 25, 26, 27, 28, 29, 30] (fun v => [(q0, .inr (10, [.ref (u 0), .ref (u 2), .ref (u 6), .ref (u 12), .ref (u 14), .ref (u 17), .ref (u 21), .ref (u 24), .ref (u 29)])), (u 0, .inr (7, [.ref (u 1)])), (u 1, .inl (cI, 141, .inl (fun _ => 0))), (u 2, .inr (1, [.ref (u 3), .ref (u 4), .ref (u 5), .int 0, .int 0])), (u 3, .inl (cI, 17, .inl (fun _ => 0))), (u 4, .inl (cI, 170, .inl (fun _ => 0))), (u 5, .inl (cI, 170, .inl (fun _ => 0))), (u 6, .inr (9, [.ref (u 7), .ref (u 8), .ref (u 9), .ref (u 10), .ref (u 11), .int 0, .int 0, .int 0])), (u 7, .inl (cI, 32, .inl (fun _ => 0))), (u 8, .inl (cI, 32, .inl (fun _ => 0))), (u 9, .inl (cI, 112, .inl (fun _ => 0))), (u 10, .inl (cI, 112, .inl (fun _ => 0))), (u 11, .inl (cI, 112, .inl (fun _ => 0))), (u 12, .inr (8, [.ref (u 13)])), (u 13, .inl (cI, 11, .inl (fun _ => 0))), (u 14, .inr (4, [.ref (u 15), .ref (u 16), .int (-1 : Int32), .int (-1 : Int32)])), (u 15, .inl (cI, 16, .inl (fun _ => 0))), (u 16, .inl (cI, 16, .inl (fun _ => 0))), (u 17, .inr (0, [.ref (u 18), .ref (u 19), .ref (u 20), .int 0])), (u 18, .inl (cI, 20, .inl (fun _ => 0))), (u 19, .inl (cI, 20, .inl (fun _ => 0))), (u 20, .inl (cI, 20, .inl (fun _ => 0))), (u 21, .inr (5, [.ref (u 22), .int 0, .int 0])), (u 22, .inr (6, [.int (20 : Int32), .ref (u 23)])), (u 23, .inl (cI, 2820, .inl (fun _ => 0))), (u 24, .inr (3, [.ref (u 25), .ref (u 27), .ref (u 28)])), (u 25, .inr (6, [.int (2 : Int32), .ref (u 26)])), (u 26, .inl (cI, 282, .inl (fun _ => 0))), (u 27, .inl (cI, 2, .inl (fun _ => 0))), (u 28, .inl (cZ, 2, .inl (fun _ => 0))), (u 29, .inr (2, [.int (0 : Int32)])), (q8, .inr (11, [.ref (v 0), .ref (v 1), .ref (v 2), .int 0, .int 0, .int 0, .ref (v 3), .ref (v 4), .ref (v 5), .ref (v 6), .ref (v 7), .ref (v 8), .ref (v 9), .ref (v 10), .int 0, .ref (v 11), .ref (v 12), .ref (v 13)])), (v 0, .inl (cI, 3243, .inl (fun _ => 0))), (v 1, .inl (cI, 2, .inl (fun _ => 0))), (v 2, .inl (cZ, 2, .inl (fun _ => 0))), (v 3, .inl (cI, 20, .inl (fun _ => 0))), (v 4, .inl (cI, 20, .inl (fun _ => 0))), (v 5, .inl (cI, 20, .inl (fun _ => 0))), (v 6, .inl (cI, 17, .inl (fun _ => 0))), (v 7, .inl (cI, 170, .inl (fun _ => 0))), (v 8, .inl (cI, 170, .inl (fun _ => 0))), (v 9, .inl (cI, 32, .inl (fun _ => 0))), (v 10, .inl (cI, 32, .inl (fun _ => 0))), (v 11, .inl (cI, 11, .inl (fun _ => 0))), (v 12, .inl (cI, 16, .inl (fun _ => 0))), (v 13, .inl (cI, 16, .inl (fun _ => 0)))]) C (mk_X11_init l (dC, dI) cI cZ q8) rfl (gcI (fun _ h => h) tw_3_173) rfl rfl rfl tw_1_13 tw_3_171 tw_3_172 rfl hy_X11_init rfl ⟨(Nat.le_of_ble_eq_true rfl), (Nat.le_of_ble_eq_true rfl)⟩ (Nat.le_of_ble_eq_true rfl) dL_law_12 ⟨(Nat.le_of_ble_eq_true rfl), (Nat.le_of_ble_eq_true rfl)⟩ rfl rfl (by decide) (by decide) (by decide) (fun _ => rfl) (fun v => ?_)
    refine y_astore_n [(2, .ref q8), (1, .ref q0), (0, .ref b)] C dL_law_15 (by decide) rfl ?_
    refine y_iconst (0 : Int32) C dL_law_16 (by decide) ?_
    refine y_istore_n [(3, .int (0 : Int32)), (2, .ref q8), (1, .ref q0), (0, .ref b)] C dL_law_17 (by decide) rfl ?_
    refine y_to_z (a := fun k => match k with | 0 => q0 | 1 => u 0 | 2 => u 2 | 3 => u 6 | 4 => u 12 | 5 => u 14 | 6 => u 17 | 7 => u 21 | 8 => u 24 | 9 => u 29 | 10 => u 1 | 11 => u 3 | 12 => u 4 | 13 => u 5 | 14 => u 7 | 15 => u 8 | 16 => u 9 | 17 => u 10 | 18 => u 11 | 19 => u 13 | 20 => u 15 | 21 => u 16 | 22 => u 18 | 23 => u 19 | 24 => u 20 | 25 => u 22 | 26 => u 25 | 27 => u 27 | 28 => u 28 | 29 => u 23 | 30 => u 26 | 31 => q8 | 32 => v 0 | 33 => v 1 | 34 => v 2 | 35 => v 3 | 36 => v 4 | 37 => v 5 | 38 => v 6 | 39 => v 7 | 40 => v 8 | 41 => v 9 | 42 => v 10 | 43 => v 11 | 44 => v 12 | _ => v 13) (cI := cI) (cZ := cZ) (M := M0) [0, 1, 3, 7, 13, 15, 18, 22, 25, 30, 2, 4, 5, 6, 8, 9, 10, 11, 12, 14, 16, 17, 19, 20, 21, 23, 26, 28, 29, 24, 27, 31, 32, 33, 34, 35, 36, 37, 38, 39, 40, 41, 42, 43, 44, 45] (by decide) rfl rfl (by subst hxe; exact ⟨rfl, rfl⟩) (fun hD => ?_)
    refine z_sub [3, 2, 1, 0] rfl ?_
    refine law_loop (L := L) (xs := xs) (b := b) hop hL (l := l) ?_ ?_ ?_ (L + 1) 0 M0 hJ (Nat.zero_le L) (by omega)
    · subst hxe
      exact ⟨rfl, rfl, rfl, hx, hb, hml, hown, htb, hK, hD, fun _ h => h, (Nat.le_of_ble_eq_true rfl), (Nat.le_of_ble_eq_true rfl)⟩
    · subst hxe
      exact ⟨hX, hbl, Nat.not_le.mpr hbl⟩
    · subst hxe
      exact ⟨hr, hlocks, rfl, rfl, rfl, (Nat.le_of_ble_eq_true rfl), (Nat.le_of_ble_eq_true rfl)⟩
  subst hxe
  exact go s.heap [] ls (fun k q h => by simp at h) ⟨fun i j p q h => by simp at h, fun k q h => by simp at h⟩ va_S.rf hl
