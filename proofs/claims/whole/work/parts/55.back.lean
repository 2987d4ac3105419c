/-! steps back, images, and the beginning -/
theorem cpy0 {f g : Nat → Int32} {a i : Nat} (h : i < 141) : va_cpy f g a 0 141 i = f (a + i) := by
  have := cpy_in (f := f) (g := g) (a := a) (b := 0) h
  rw [Nat.zero_add] at this
  exact this
theorem op_undo_ok : op_undo JJ := by
  intro M hJ a0
  obtain ⟨⟨c, n, hw, hc, hs, hx, hy⟩, ⟨s, d, P, hsd, hPW, hPX, hPR⟩, hI, hS, hB⟩ := id hJ
  obtain ⟨q1, q2, q3, q4⟩ := id hPX
  have hd := hPW.1
  have bad : ∀ v : Int32, f_X10_undo M a0 = some (v, M) → f_X11_undo M a0 = some (v, M) → ∃ s1 : Int32 × MM, f_X10_undo M a0 = some s1 ∧ ∃ s2 : Int32 × MM, f_X11_undo s1.2 a0 = some s2 ∧ s1.1 = s2.1 ∧ JJ s2.2 := fun v x y => ⟨(v, M), x, (v, M), y, rfl, hJ⟩
  by_cases h : 1 ≤ a0.toInt ∧ a0.toInt ≤ 20
  · obtain ⟨x, hx2, rfl⟩ := x_nat (x := a0) (k := 21) (by omega) (by omega) (by decide)
    have h' := h
    rw [ti_n (by omega)] at h
    have n1 : ¬ nI x < (1 : Int32) := fun z => by
      have := (x_ltK (k := 1) (by decide)).mp z
      rw [ti_n (by omega)] at this
      omega
    have n20 : nI x ≤ (20 : Int32) := nI_le (b := 20) (by omega) (by decide)
    by_cases hxd : x ≤ d
    · have hle : nI x ≤ nI d := nI_le hxd (by omega)
      obtain ⟨m, hm⟩ := hPW.2 (x - 1) (by omega)
      let S : MM := mst (mst M 7 1 (nI ((s + 20 - x) % 20))) 7 2 (nI (d - x))
      have S29 : S 29 = M 29 := by
        show mst (mst M 7 1 (nI ((s + 20 - x) % 20))) 7 2 (nI (d - x)) 29 = M 29
        rw [mst_n _ _ _ (by decide), mst_n _ _ _ (by decide)]
      have e1 : f_X5_stepBack M (nI x) = some (mcp S 10 (va_cpy (S 29) (S 10) ((s + 20 - x) % 20 * 141) 0 141)) := by
        unfold f_X5_stepBack f_X6_fetch
        rw [if_neg n1, q3, if_pos hle, q2, show nI s + (20 : Int32) = nI (s + 20) from nI_add s 20, pk_sub (by omega), show z_rem (nI (s + 20 - x)) (20 : Int32) = _ from rem_ok (b := 20) (by omega) (by decide) (by decide), b_s, stf_ok, b_s, mst_sn _ _ _ (by decide), q3, pk_sub hxd, stf_ok, b_s, mst_sn _ _ _ (by decide), mst_ss, if_neg (nI_nlt0 (by omega)), mst_n _ _ _ (show 25 ≠ 7 by decide), mst_n _ _ _ (show 25 ≠ 7 by decide), q1, if_neg (show ¬ (20 : Int32) ≤ nI ((s + 20 - x) % 20) from nI_ge (b := 20) (Nat.mod_lt _ (by decide)) (by decide)), show nI ((s + 20 - x) % 20) * (141 : Int32) = nI ((s + 20 - x) % 20 * 141) from pk_mul _ 141]
        rw [show z_cpy (mst (mst M 7 1 (nI ((s + 20 - x) % 20))) 7 2 (nI (d - x))) 29 2820 (nI ((s + 20 - x) % 20 * 141)) 10 141 (0 : Int32) (141 : Int32) = _ from cpy_ok (b := 0) (by omega) (by decide) (by decide) (by decide), b_s, b_s, b_s]
      have c1 : Rc (P (x - 1)) (mcp S 10 (va_cpy (S 29) (S 10) ((s + 20 - x) % 20 * 141) 0 141)) := fun i hi => by
        rw [mcp_s, cpy0 hi, S29, ← q4 (x - 1) (by omega) i hi]
        congr 1
        omega
      obtain ⟨M2, e2, x2, y2, F2⟩ := X_all hm c1
      have g : ∀ q, q ∉ CW → M2 q = M q := fun q hq => by
        rw [F2 q (fun x => hq ((show ∀ k, k ∈ [2, 3, 11, 12, 13, 14, 15, 16, 17, 18] → k ∈ CW by decide) q x)), mcp_n _ _ (cw hq (by decide))]
        show mst (mst M 7 1 (nI ((s + 20 - x) % 20))) 7 2 (nI (d - x)) q = M q
        rw [mst_n _ _ _ (cw hq (by decide)), mst_n _ _ _ (cw hq (by decide))]
      have p2 : PX ((s + 20 - x) % 20) (d - x) (fun k => P (k + x)) M2 := by
        refine ⟨?_, ?_, ?_, fun k hk i hi => ?_⟩
        · rw [g 25 (by decide)]; exact q1
        · rw [F2 7 (by decide), mcp_n _ _ (by decide)]
          show mst (mst M 7 1 (nI ((s + 20 - x) % 20))) 7 2 (nI (d - x)) 7 1 = _
          rw [mst_sn _ _ _ (by decide), mst_ss]
        · rw [F2 7 (by decide), mcp_n _ _ (by decide)]
          exact mst_ss _ _ _ _
        · rw [F2 29 (by decide), mcp_n _ _ (by decide), S29]
          show _ = P (k + x) i
          rw [← q4 (k + x) (by omega) i hi]
          congr 1
          omega
      have hx3 : HX (P (x - 1)) m ((s + 20 - x) % 20) (d - x) (fun k => P (k + x)) M2 := ⟨hm, Nat.mod_lt _ (by decide), ⟨by omega, fun k hk => hPW.2 (k + x) (by omega)⟩, Rc_q c1 (F2 10 (by decide)), x2, y2, p2⟩
      have hr2 : HR c d P M2 := HR_fr ⟨hs, hPR⟩ (by rw [g 31 (by decide)]) (g 32 (by decide))
      obtain ⟨M4, e4, k4, w4⟩ := R_copy (M := mst M2 31 3 (nI (d - x))) (a := 423 + 141 * (d - x)) (b := 0) (by omega) (by decide) (by omega)
      have w32 : mst M2 31 3 (nI (d - x)) 32 = M2 32 := mst_n _ _ _ (by decide)
      rw [w32] at w4
      have hr4 : HR (P (x - 1)) (d - x) (fun k => P (k + x)) M4 := by
        refine ⟨fun i hi => ?_, ?_, fun k hk => ?_⟩
        · have hr := rix_lt i hi
          have := hr2.2.2 (x - 1) (by omega) i hi
          rw [Nat.mul_zero, Nat.zero_add, w4, cpy0 hr, ← this]
          congr 1
          omega
        · rw [k4 31 (by decide), mst_ss]
        · have := hr2.2.2 (k + x) (by omega)
          rw [show d - 1 - (k + x) = d - x - 1 - k by omega] at this
          exact Sw_fr this (fun i a b => by rw [w4, cpy_out (by omega)])
      have f4 : FR M2 M4 := ⟨fun q hq => (k4 q (rw_ hq (by decide))).trans (mst_n _ _ _ (rw_ hq (by decide))), fun i a b => by rw [k4 31 (by decide), mst_sn _ _ _ a], fun i a b => by rw [w4, cpy_out (by omega)]⟩
      refine ⟨(nI m, M2), ?_, (nI m, M4), ?_, rfl, JJ_push hJ g hx3 f4 hr4⟩
      · unfold f_X10_undo
        rw [if_neg n1, if_pos n20, q3, if_pos hle, e1, b_s, e2, b_s, X7_people (Rc_q c1 (F2 10 (by decide))) hm, b_s]
      · show f_X11_undo M2 (nI x) = _
        unfold f_X11_undo
        rw [R_ini (a := 1) (b := 20) _ _ _ _ (by decide) (by decide), b_s, if_pos h', if_neg (show ¬ (1 : Int32) = 0 by decide), hr2.2.1, if_pos hle, pk_sub hxd, stf_ok, b_s, mst_ss, show (141 : Int32) * nI (d - x) = nI (141 * (d - x)) from pk_mul 141 _, show (423 : Int32) + nI (141 * (d - x)) = nI (423 + 141 * (d - x)) from nI_add 423 _, show f_X11_copy (mst M2 31 3 (nI (d - x))) (nI (423 + 141 * (d - x))) (0 : Int32) = some M4 from e4, b_s, R_n hr4.1 hm, b_s]
    · have hle : ¬ nI x ≤ nI d := nI_ge (by omega) (by omega)
      refine bad (-1000000003) ?_ ?_
      · unfold f_X10_undo
        rw [if_neg n1, if_pos n20, q3, if_neg hle]
      · unfold f_X11_undo
        rw [R_ini (a := 1) (b := 20) _ _ _ _ (by decide) (by decide), b_s, if_pos h', if_neg (show ¬ (1 : Int32) = 0 by decide), hPR.1, if_neg hle]
  · refine bad (-1000000002) ?_ ?_
    · unfold f_X10_undo
      by_cases n0 : a0 < (1 : Int32)
      · rw [if_pos n0]
      · rw [if_neg n0, if_neg (show ¬ a0 ≤ (20 : Int32) from fun x => by
          have := (x_leK (k := 20) (by decide)).mp x
          have z : ¬ a0.toInt < ((1 : Nat) : Int) := fun q => n0 ((x_ltK (k := 1) (by decide)).mpr q)
          omega)]
    · unfold f_X11_undo
      rw [R_ini (a := 1) (b := 20) _ _ _ _ (by decide) (by decide), b_s, if_neg h, if_pos rfl]
theorem op_goBack_ok : op_goBack JJ := by
  intro M hJ a0
  obtain ⟨⟨c, n, hw, hc, hs, hx, hy⟩, ⟨s, d, P, hsd, hPW, hPX, hPR⟩, hI, hS, hB⟩ := id hJ
  have bad : ∀ v : Int32, f_X10_goBack M a0 = some (v, M) → f_X11_goBack M a0 = some (v, M) → ∃ s1 : Int32 × MM, f_X10_goBack M a0 = some s1 ∧ ∃ s2 : Int32 × MM, f_X11_goBack s1.2 a0 = some s2 ∧ s1.1 = s2.1 ∧ JJ s2.2 := fun v x y => ⟨(v, M), x, (v, M), y, rfl, hJ⟩
  have o : ¬ (1 : Int32) = 0 := by decide
  by_cases h : 0 ≤ a0.toInt ∧ a0.toInt ≤ 1
  · obtain ⟨j, hj, rfl⟩ := x_nat (x := a0) (k := 2) h.1 (by omega) (by decide)
    have n0 : ¬ nI j < 0 := nI_nlt0 (by omega)
    have n2 : nI j < (2 : Int32) := (x_ltK (k := 2) (by decide)).mpr (by rw [ti_n (by omega)]; omega)
    have n2' : ¬ (2 : Int32) ≤ nI j := nI_ge (b := 2) hj (by decide)
    obtain ⟨i1, i2, i3⟩ := hI.2 j hj
    rcases i2 with z | z
    · refine bad (-1000000003) ?_ ?_
      · unfold f_X10_goBack f_X3_isStored
        rw [if_neg n0, if_pos n2, if_neg n0, if_neg n2', ld_ok hj, b_s, z, if_pos rfl, b_s, rz0, b_s, if_pos rfl]
      · unfold f_X11_goBack
        rw [R_ini (a := 0) (b := 1) _ _ _ _ (by decide) (by decide), b_s, if_pos h, if_neg o, ld_ok hj, b_s, i1, z, if_pos rfl]
    · obtain ⟨t1, t2, Q, m, t3, t4, t5⟩ := i3 z
      have st : f_X3_isStored M (nI j) = some 1 := by
        unfold f_X3_isStored
        rw [if_neg n0, if_neg n2', ld_ok hj, b_s, z, if_neg o, b_s, rz1]
      let A : MM := mcp M 10 (va_cpy (M 30) (M 10) (j * 141) 0 141)
      have e1 : f_X3_restore M (nI j) = some (mst A 9 0 (M 27 j)) := by
        unfold f_X3_restore f_X6_fetch
        rw [st, b_s, if_neg o, if_neg n0, hI.1, if_neg n2', show nI j * (141 : Int32) = nI (j * 141) from pk_mul _ 141]
        rw [show z_cpy M 30 282 (nI (j * 141)) 10 141 (0 : Int32) (141 : Int32) = some A from cpy_ok (b := 0) (by omega) (by decide) (by decide) (by decide), b_s, b_s, b_s, ld_ok hj, b_s, show A 27 = M 27 from mcp_n _ _ (by decide), stf_ok, b_s]
      have c1 : Rc Q (mst (mst A 9 0 (M 27 j)) 7 2 0) := fun i hi => by
        rw [mst_n _ _ _ (by decide), mst_n _ _ _ (by decide)]
        show mcp M 10 (va_cpy (M 30) (M 10) (j * 141) 0 141) 10 i = Q i
        rw [mcp_s, cpy0 hi, ← t4 i hi, Nat.mul_comm]
      obtain ⟨M2, e2, x2, y2, F2⟩ := X_all t3 c1
      have g : ∀ q, q ∉ 9 :: CW → M2 q = M q := fun q hq => by
        have ne : ∀ k, k ∈ 9 :: CW → q ≠ k := fun k hk e => hq (e ▸ hk)
        rw [F2 q (fun x => hq ((show ∀ k, k ∈ [2, 3, 11, 12, 13, 14, 15, 16, 17, 18] → k ∈ 9 :: CW by decide) q x)), mst_n _ _ _ (ne 7 (by decide)), mst_n _ _ _ (ne 9 (by decide))]
        exact mcp_n _ _ (ne 10 (by decide))
      have a9 : M2 9 0 = M 27 j := by
        rw [F2 9 (by decide), mst_n _ _ _ (by decide), mst_ss]
      have p2 : PX s 0 P M2 := by
        refine ⟨?_, ?_, ?_, fun k hk => absurd hk (Nat.not_lt_zero k)⟩
        · rw [g 25 (by decide)]; exact hPX.1
        · rw [F2 7 (by decide), mst_sn _ _ _ (by decide), mst_n _ _ _ (by decide)]
          show mcp M 10 _ 7 1 = _
          rw [mcp_n _ _ (by decide)]; exact hPX.2.1
        · rw [F2 7 (by decide)]
          exact (mst_ss _ _ _ _).trans rfl
      have hx3 : HX Q m s 0 P M2 := ⟨t3, hsd, ⟨by decide, fun k hk => absurd hk (Nat.not_lt_zero k)⟩, Rc_q c1 (F2 10 (by decide)), x2, y2, p2⟩
      obtain ⟨M4, e4, k4, w4⟩ := R_copy (M := M2) (a := 141 + 141 * j) (b := 0) (by omega) (by decide) (by omega)
      let B : MM := mst (mst M4 31 4 (M 27 j)) 31 3 0
      have B32 : B 32 = M4 32 := by
        show mst (mst M4 31 4 (M 27 j)) 31 3 0 32 = _
        rw [mst_n _ _ _ (by decide), mst_n _ _ _ (by decide)]
      have hr4 : HR Q 0 P B := by
        refine ⟨fun i hi => ?_, (mst_ss _ _ _ _).trans rfl, fun k hk => absurd hk (Nat.not_lt_zero k)⟩
        have hr := rix_lt i hi
        have := t5 i hi
        rw [B32, Nat.mul_zero, Nat.zero_add, w4, cpy0 hr, g 32 (by decide), ← this]
        congr 1
        omega
      have f4 : FD M2 B := by
        refine ⟨fun q hq => ?_, fun i a b d => ?_, fun i a b => ?_⟩
        · show mst (mst M4 31 4 (M 27 j)) 31 3 0 q = _
          rw [mst_n _ _ _ (rw_ hq (by decide)), mst_n _ _ _ (rw_ hq (by decide)), k4 q (rw_ hq (by decide))]
        · show mst (mst M4 31 4 (M 27 j)) 31 3 0 31 i = _
          rw [mst_sn _ _ _ a, mst_sn _ _ _ b, k4 31 (by decide)]
        · rw [B32, w4, cpy_out (by omega)]
      refine ⟨(1, M2), ?_, (1, B), ?_, rfl, JJ_mk hI hB (Or.inr g) hx3 (Or.inr f4) hr4 ⟨?_, ?_⟩⟩
      · unfold f_X10_goBack
        rw [if_neg n0, if_pos n2, st, b_s, if_neg o, e1, b_s, stf_ok, b_s, e2, b_s]
      · show f_X11_goBack M2 (nI j) = _
        unfold f_X11_goBack
        rw [R_ini (a := 0) (b := 1) _ _ _ _ (by decide) (by decide), b_s, if_pos h, if_neg o, ld_ok hj, b_s, g 34 (by decide), i1, z, if_neg o, show (141 : Int32) * nI j = nI (141 * j) from pk_mul 141 _, show (141 : Int32) + nI (141 * j) = nI (141 + 141 * j) from nI_add 141 _, show f_X11_copy M2 (nI (141 + 141 * j)) (0 : Int32) = some M4 from e4, b_s, ld_ok hj, b_s, k4 33 (by decide), g 33 (by decide), t1, stf_ok, b_s, stf_ok, b_s]
      · show B 31 4 = B 9 0
        rw [f4.1 9 (by decide), a9]
        show mst (mst M4 31 4 (M 27 j)) 31 3 0 31 4 = _
        rw [mst_sn _ _ _ (by decide), mst_ss]
      · show 0 ≤ B 9 0
        rw [f4.1 9 (by decide), a9]; exact t2
  · refine bad (-1000000001) ?_ ?_
    · unfold f_X10_goBack
      by_cases n0 : a0 < 0
      · rw [if_pos n0]
      · rw [if_neg n0, if_neg (show ¬ a0 < (2 : Int32) from fun x => by
          have := (x_ltK (k := 2) (by decide)).mp x
          rw [x_lt0] at n0
          omega)]
    · unfold f_X11_goBack
      rw [R_ini (a := 0) (b := 1) _ _ _ _ (by decide) (by decide), b_s, if_neg h, if_pos rfl]
theorem op_keep_ok : op_keep JJ := by
  intro M hJ a0
  obtain ⟨⟨c, n, hC⟩, ⟨s, d, P, hsd, hPW, hPX, hPR⟩, hI, hS, hB⟩ := id hJ
  obtain ⟨hw, hc, hs, hx, hy⟩ := id hC
  have o : ¬ (1 : Int32) = 0 := by decide
  by_cases h : 0 ≤ a0.toInt ∧ a0.toInt ≤ 1
  · obtain ⟨j, hj, rfl⟩ := x_nat (x := a0) (k := 2) h.1 (by omega) (by decide)
    have n0 : ¬ nI j < 0 := nI_nlt0 (by omega)
    have n2 : nI j < (2 : Int32) := (x_ltK (k := 2) (by decide)).mpr (by rw [ti_n (by omega)]; omega)
    have n2' : ¬ (2 : Int32) ≤ nI j := nI_ge (b := 2) hj (by decide)
    let A : MM := mcp M 30 (va_cpy (M 10) (M 30) 0 (j * 141) 141)
    let A4 : MM := mst (mst (mst A 27 j (M 9 0)) 28 j 1) 7 2 0
    have gA : ∀ q, q ∉ [7, 27, 28, 30] → A4 q = M q := fun q hq => by
      have ne : ∀ k, k ∈ [7, 27, 28, 30] → q ≠ k := fun k hk e => hq (e ▸ hk)
      show mst (mst (mst A 27 j (M 9 0)) 28 j 1) 7 2 0 q = _
      rw [mst_n _ _ _ (ne 7 (by decide)), mst_n _ _ _ (ne 28 (by decide)), mst_n _ _ _ (ne 27 (by decide))]
      exact mcp_n _ _ (ne 30 (by decide))
    have e1 : f_X3_store M (nI j) = some (mst (mst A 27 j (M 9 0)) 28 j 1) := by
      unfold f_X3_store f_X6_lay
      rw [if_neg n0, if_pos n2, if_neg n0, hI.1, if_neg n2', show nI j * (141 : Int32) = nI (j * 141) from pk_mul _ 141]
      rw [show z_cpy M 10 141 (0 : Int32) 30 282 (nI (j * 141)) (141 : Int32) = some A from cpy_ok (a := 0) (by decide) (by omega) (by decide) (by decide), b_s, b_s, b_s, show A 9 = M 9 from mcp_n _ _ (by decide), sto_ok hj, b_s, stz_ok hj (Or.inr rfl), b_s]
    obtain ⟨M4, e4, k4, w4⟩ := R_copy (M := A4) (a := 0) (b := 141 + 141 * j) (by decide) (by omega) (by omega)
    let B : MM := mst (mst (mst M4 33 j (M 9 0)) 34 j 1) 31 3 0
    have gB : ∀ q, q ∉ [31, 32, 33, 34] → B q = A4 q := fun q hq => by
      have ne : ∀ k, k ∈ [31, 32, 33, 34] → q ≠ k := fun k hk e => hq (e ▸ hk)
      show mst (mst (mst M4 33 j (M 9 0)) 34 j 1) 31 3 0 q = _
      rw [mst_n _ _ _ (ne 31 (by decide)), mst_n _ _ _ (ne 34 (by decide)), mst_n _ _ _ (ne 33 (by decide)), k4 q (ne 32 (by decide))]
    have g : ∀ q, q ∉ [7, 27, 28, 30, 31, 32, 33, 34] → B q = M q := fun q hq => (gB q (fun x => hq ((show ∀ k, k ∈ [31, 32, 33, 34] → k ∈ [7, 27, 28, 30, 31, 32, 33, 34] by decide) q x))).trans (gA q (fun x => hq ((show ∀ k, k ∈ [7, 27, 28, 30] → k ∈ [7, 27, 28, 30, 31, 32, 33, 34] by decide) q x)))
    have g31 : ∀ i, i ≠ 3 → B 31 i = M 31 i := fun i hi => by
      show mst (mst (mst M4 33 j (M 9 0)) 34 j 1) 31 3 0 31 i = _
      rw [mst_sn _ _ _ hi, mst_n _ _ _ (by decide), mst_n _ _ _ (by decide), k4 31 (by decide), gA 31 (by decide)]
    have B32 : ∀ i, B 32 i = va_cpy (M 32) (M 32) 0 (141 + 141 * j) 141 i := fun i => by
      show mst (mst (mst M4 33 j (M 9 0)) 34 j 1) 31 3 0 32 i = _
      rw [mst_n _ _ _ (by decide), mst_n _ _ _ (by decide), mst_n _ _ _ (by decide), w4, gA 32 (by decide)]
    have B7 : B 7 = mst M 7 2 0 7 := by
      rw [gB 7 (by decide)]
      show mst (mst (mst A 27 j (M 9 0)) 28 j 1) 7 2 0 7 = _
      rw [mst_s, mst_s, mst_n _ _ _ (by decide), mst_n _ _ _ (by decide), show A 7 = M 7 from mcp_n _ _ (by decide)]
    have B27 : ∀ i, B 27 i = if i = j then M 9 0 else M 27 i := fun i => by
      rw [gB 27 (by decide)]
      show mst (mst (mst A 27 j (M 9 0)) 28 j 1) 7 2 0 27 i = _
      rw [mst_n _ _ _ (by decide), mst_n _ _ _ (by decide)]
      by_cases q : i = j
      · subst q; rw [mst_ss, if_pos rfl]
      · rw [mst_sn _ _ _ q, if_neg q, show A 27 = M 27 from mcp_n _ _ (by decide)]
    have B28 : ∀ i, B 28 i = if i = j then 1 else M 28 i := fun i => by
      rw [gB 28 (by decide)]
      show mst (mst (mst A 27 j (M 9 0)) 28 j 1) 7 2 0 28 i = _
      rw [mst_n _ _ _ (by decide)]
      by_cases q : i = j
      · subst q; rw [mst_ss, if_pos rfl]
      · rw [mst_sn _ _ _ q, if_neg q, mst_n _ _ _ (by decide), show A 28 = M 28 from mcp_n _ _ (by decide)]
    have B30 : B 30 = va_cpy (M 10) (M 30) 0 (j * 141) 141 := by
      rw [gB 30 (by decide)]
      show mst (mst (mst A 27 j (M 9 0)) 28 j 1) 7 2 0 30 = _
      rw [mst_n _ _ _ (by decide), mst_n _ _ _ (by decide), mst_n _ _ _ (by decide)]
      exact mcp_s _ _ _
    have B33 : ∀ i, B 33 i = if i = j then M 9 0 else M 33 i := fun i => by
      show mst (mst (mst M4 33 j (M 9 0)) 34 j 1) 31 3 0 33 i = _
      rw [mst_n _ _ _ (by decide), mst_n _ _ _ (by decide)]
      by_cases q : i = j
      · subst q; rw [mst_ss, if_pos rfl]
      · rw [mst_sn _ _ _ q, if_neg q, k4 33 (by decide), gA 33 (by decide)]
    have B34 : ∀ i, B 34 i = if i = j then 1 else M 34 i := fun i => by
      show mst (mst (mst M4 33 j (M 9 0)) 34 j 1) 31 3 0 34 i = _
      rw [mst_n _ _ _ (by decide)]
      by_cases q : i = j
      · subst q; rw [mst_ss, if_pos rfl]
      · rw [mst_sn _ _ _ q, if_neg q, mst_n _ _ _ (by decide), k4 34 (by decide), gA 34 (by decide)]
    have s0 : Sw c (B 32) 0 := Sw_fr hs (fun i a b => by rw [B32, cpy_out (by omega)])
    have hJI : JI B := by
      refine ⟨by rw [g 26 (by decide)]; exact hI.1, fun i hi => ?_⟩
      rw [B28, B34, B27, B33]
      by_cases q : i = j
      · subst q
        rw [if_pos rfl, if_pos rfl, if_pos rfl, if_pos rfl]
        refine ⟨rfl, Or.inr rfl, fun _ => ⟨rfl, hS.2, c, n, hw, fun k hk => ?_, fun k hk => ?_⟩⟩
        · rw [B30, show 141 * i + k = i * 141 + k by omega, cpy_in hk, Nat.zero_add]; exact hc k hk
        · have hr := rix_lt k hk
          have := hs k hk
          rw [B32, show 141 * (1 + i) + rix k = 141 + 141 * i + rix k by omega, cpy_in hr, ← this]
      · rw [if_neg q, if_neg q, if_neg q, if_neg q]
        obtain ⟨i1, i2, i3⟩ := hI.2 i hi
        refine ⟨i1, i2, fun z => ?_⟩
        obtain ⟨t1, t2, Q, m, t3, t4, t5⟩ := i3 z
        refine ⟨t1, t2, Q, m, t3, fun k hk => ?_, Sw_fr t5 (fun k a b => ?_)⟩
        · rw [B30, cpy_out (by omega)]; exact t4 k hk
        · rw [B32, cpy_out (by omega)]
    refine ⟨(1, A4), ?_, (1, B), ?_, rfl, ⟨c, n, hw, Rc_q hc (g 10 (by decide)), s0, CoatsX_fr hx (g 2 (by decide)) (g 11 (by decide)) (g 12 (by decide)) (g 13 (by decide)), YX_fr hy (g 3 (by decide)) (g 14 (by decide)) (g 15 (by decide))⟩, ⟨s, 0, P, hsd, ⟨by decide, fun k hk => absurd hk (Nat.not_lt_zero k)⟩, ⟨?_, ?_, ?_, fun k hk => absurd hk (Nat.not_lt_zero k)⟩, (show B 31 3 = nI 0 from (mst_ss _ _ _ _).trans rfl), fun k hk => absurd hk (Nat.not_lt_zero k)⟩, hJI, JS_fr hS (g 9 (by decide)) (g31 4 (by decide)), JB_fr hB (g 6 (by decide)) (g 22 (by decide)) (g 23 (by decide)) (g 24 (by decide)) (g 35 (by decide)) (g 36 (by decide)) (g 37 (by decide)) (g31 5 (by decide))⟩
    · unfold f_X10_keep
      rw [if_neg n0, if_pos n2, e1, b_s, stf_ok, b_s]
    · show f_X11_keep A4 (nI j) = _
      unfold f_X11_keep
      rw [R_ini (a := 0) (b := 1) _ _ _ _ (by decide) (by decide), b_s, if_pos h, if_neg o, show (141 : Int32) * nI j = nI (141 * j) from pk_mul 141 _, show (141 : Int32) + nI (141 * j) = nI (141 + 141 * j) from nI_add 141 _, show f_X11_copy A4 (0 : Int32) (nI (141 + 141 * j)) = some M4 from e4, b_s, k4 31 (by decide), gA 31 (by decide), hS.1, sto_ok hj, b_s, stz_ok hj (Or.inr rfl), b_s, stf_ok, b_s]
    · show B 25 0 = 20
      rw [g 25 (by decide)]; exact hPX.1
    · show B 7 1 = nI s
      rw [B7, mst_sn _ _ _ (by decide)]; exact hPX.2.1
    · show B 7 2 = nI 0
      rw [B7, mst_ss]; rfl
  · refine ⟨(-1000000001, M), ?_, (-1000000001, M), ?_, rfl, hJ⟩
    · unfold f_X10_keep
      by_cases n0 : a0 < 0
      · rw [if_pos n0]
      · rw [if_neg n0, if_neg (show ¬ a0 < (2 : Int32) from fun x => by
          have := (x_ltK (k := 2) (by decide)).mp x
          rw [x_lt0] at n0
          omega)]
    · show f_X11_keep M a0 = _
      unfold f_X11_keep
      rw [R_ini (a := 0) (b := 1) _ _ _ _ (by decide) (by decide), b_s, if_neg h, if_pos rfl]
theorem ops_ok : opOK JJ := ⟨op_told_ok, op_person_ok, op_quarter_ok, op_kin_ok, op_would_ok, op_dated_ok, op_signAt_ok, op_put_ok, op_born_ok, op_died_ok, op_rule_ok, op_sign_ok, op_wipe_ok, op_drift_ok, op_undo_ok, op_write_ok, op_tear_ok, op_seed_ok, op_keep_ok, op_goBack_ok⟩
theorem JJ_M0 : JJ M0 := by
  have z : ∀ q, q ≠ 5 → q ≠ 25 → q ≠ 26 → ∀ i, M0 q i = 0 := fun q a b d i => by
    unfold M0
    rw [if_neg a, if_neg b, if_neg d]
  have hw : WF (fun _ => 0) 0 := ⟨by decide, rfl, ⟨0, by decide, rfl⟩, ⟨0, by decide, rfl, fun i hi => absurd hi (Nat.not_lt_zero i)⟩, fun p hp => absurd hp (Nat.not_lt_zero p)⟩
  have e : Feas (fun _ => 0) 0 (fun _ => 0) := ⟨fun d hd => absurd hd (List.not_mem_nil), fun m hm => absurd hm (Nat.not_lt_zero m)⟩
  refine ⟨⟨fun _ => 0, 0, hw, fun i _ => z 10 (by decide) (by decide) (by decide) i, fun i _ => z 32 (by decide) (by decide) (by decide) _, ⟨(z 2 (by decide) (by decide) (by decide) 3).trans rfl, (z 2 (by decide) (by decide) (by decide) 4).trans rfl, fun p hp => absurd hp (Nat.not_lt_zero p)⟩, (z 3 (by decide) (by decide) (by decide) 5).trans rfl, fun _ => ⟨z 3 (by decide) (by decide) (by decide) 7, ⟨fun _ => 0, ⟨e, fun x hx m hm => absurd hm (Nat.not_lt_zero m)⟩, fun m hm => absurd hm (Nat.not_lt_zero m)⟩, ⟨fun _ => 0, ⟨e, fun x hx m hm => absurd hm (Nat.not_lt_zero m)⟩, fun m hm => absurd hm (Nat.not_lt_zero m)⟩⟩, fun h => absurd ⟨_, e⟩ h⟩, ⟨0, 0, fun _ _ => 0, by decide, ⟨by decide, fun k hk => absurd hk (Nat.not_lt_zero k)⟩, ⟨rfl, (z 7 (by decide) (by decide) (by decide) 1).trans rfl, (z 7 (by decide) (by decide) (by decide) 2).trans rfl, fun k hk => absurd hk (Nat.not_lt_zero k)⟩, (z 31 (by decide) (by decide) (by decide) 3).trans rfl, fun k hk => absurd hk (Nat.not_lt_zero k)⟩, ⟨rfl, fun j _ => ⟨(z 34 (by decide) (by decide) (by decide) j).trans (z 28 (by decide) (by decide) (by decide) j).symm, Or.inl (z 28 (by decide) (by decide) (by decide) j), fun h => ?_⟩⟩, ⟨(z 31 (by decide) (by decide) (by decide) 4).trans (z 9 (by decide) (by decide) (by decide) 0).symm, ?_⟩, fun _ => 0, fun _ => 0, fun _ => 0, 0, ⟨by decide, fun i hi => absurd hi (Nat.not_lt_zero i)⟩, (z 6 (by decide) (by decide) (by decide) 3).trans rfl, (z 31 (by decide) (by decide) (by decide) 5).trans rfl, fun i hi => absurd hi (Nat.not_lt_zero i), fun i hi => absurd hi (Nat.not_lt_zero i)⟩
  · rw [z 28 (by decide) (by decide) (by decide) j] at h
    exact absurd h (by decide)
  · rw [z 9 (by decide) (by decide) (by decide) 0]; decide
