/-! rule, signs, bounds, people -/
theorem WF_low {c c' : Nat → Int32} {n : Nat} (hw : WF c n) (h : ∀ i, 13 ≤ i → c' i = c i) (h0 : c' 0 = c 0) (h1 : ∃ r, r ≤ 2 ∧ c' 1 = nI r) (h2 : ∃ k, k ≤ 10 ∧ c' 2 = nI k ∧ ∀ i, i < k → ∃ v, v ≤ 10 ∧ c' (3 + i) = nI v) : WF c' n := ⟨hw.1, h0.trans hw.2.1, h1, h2, fun p hp => WFp_c h (hw.2.2.2.2 p hp)⟩
theorem Rc_q {c : Nat → Int32} {M M1 : MM} (h : Rc c M) (e : M1 10 = M 10) : Rc c M1 := fun i hi => by rw [e]; exact h i hi
theorem op_rule_ok : op_rule JJ := by
  intro M hJ a0
  obtain ⟨⟨c, n, hw, hc, hs, hx, hy⟩, ⟨s, d, P, hsd, hPW, hPX, hPR⟩, -⟩ := id hJ
  by_cases h : 0 ≤ a0.toInt ∧ a0.toInt ≤ 2
  · obtain ⟨r, hr, rfl⟩ := x_nat (k := 3) h.1 (by omega) (by decide)
    have n0 : ¬ nI r < 0 := nI_nlt0 (by omega)
    have n2 : nI r ≤ (2 : Int32) := nI_le (b := 2) (by omega) (by decide)
    obtain ⟨M1, e1, F1, X1, c1, p1⟩ := HX_rem hc hsd hPW.1 hPX
    have hw2 : WF (upd c 1 (nI r)) n := WF_low hw (fun i hi => upd_n _ _ (by omega)) (upd_n _ _ (by decide)) ⟨r, by omega, upd_s _ _ _⟩ (by
      obtain ⟨k, k1, k2, k3⟩ := hw.2.2.2.1
      exact ⟨k, k1, (upd_n _ _ (by decide)).trans k2, fun i hi => by
        obtain ⟨v, v1, v2⟩ := k3 i hi
        exact ⟨v, v1, (upd_n _ _ (by omega)).trans v2⟩⟩)
    have c2 : Rc (upd c 1 (nI r)) (mst M1 10 1 (nI r)) := Rc_upd c1 1 (nI r)
    obtain ⟨M3, e3, x3, F3⟩ := X1_reckon hw2 c2
    have g3 : ∀ q, q ≠ 2 → q ≠ 7 → q ≠ 10 → q ≠ 11 → q ≠ 12 → q ≠ 13 → q ≠ 29 → M3 q = M q := fun q a b d e f g h => by rw [F3 q a e f g, mst_n _ _ _ d, F1 q b h]
    have FX3 : FX M M3 := fun q hq => g3 q (cw hq (by decide)) (cw hq (by decide)) (cw hq (by decide)) (cw hq (by decide)) (cw hq (by decide)) (cw hq (by decide)) (cw hq (by decide))
    have HX3 : HX (upd c 1 (nI r)) n ((s + 1) % 20) (dn d) (push c P) M3 := ⟨hw2, Nat.mod_lt _ (by decide), PW_push hw hPW, Rc_q c2 (F3 10 (by decide) (by decide) (by decide) (by decide)), x3, YX_c (c := c) (fun i hi => upd_n _ _ (by omega)) (YX_fr hy (g3 3 (by decide) (by decide) (by decide) (by decide) (by decide) (by decide) (by decide)) (g3 14 (by decide) (by decide) (by decide) (by decide) (by decide) (by decide) (by decide)) (g3 15 (by decide) (by decide) (by decide) (by decide) (by decide) (by decide) (by decide))), PX_fr p1 ((F3 25 (by decide) (by decide) (by decide) (by decide)).trans (mst_n _ _ _ (by decide))) ((F3 7 (by decide) (by decide) (by decide) (by decide)).trans (mst_n _ _ _ (by decide))) ((F3 29 (by decide) (by decide) (by decide) (by decide)).trans (mst_n _ _ _ (by decide)))⟩
    have hr3 : HR c d P M3 := HR_fr ⟨hs, hPR⟩ (by rw [FX3 31 (by decide)]) (FX3 32 (by decide))
    obtain ⟨M4, e4, hr4, f4⟩ := HR_minds hPW.1 hr3
    obtain ⟨hr5, f5⟩ := HR_sto hr4 (j := 1) (k := 1) (by decide) (by decide) (nI r)
    obtain ⟨M6, e6, F6⟩ := R_coats hw2 hr5.1
    refine ⟨(nI (ucn (upd c 1 (nI r)) n n), M3), ?_, (nI (ucn (upd c 1 (nI r)) n n), M6), ?_, rfl, JJ_push hJ FX3 HX3 (FR_t f4 (FR_t f5 (FR_c F6))) (HR_fr hr5 (congrFun (F6 31 (by decide) (by decide) (by decide)) 3) (F6 32 (by decide) (by decide) (by decide)))⟩
    · unfold f_X10_rule
      rw [if_neg n0, if_pos n2, e1, b_s, X7_setRule, b_s, e3, b_s, X1_unlike hw2 x3, b_s]
    · show f_X11_rule M3 (nI r) = _
      unfold f_X11_rule
      rw [R_ini (a := 0) (b := 2) _ _ _ _ (by decide) (by decide), b_s, if_pos h, if_neg (show ¬ (1 : Int32) = 0 by decide), e4, b_s, show z_sto M4 32 3243 (1 : Int32) (nI r) = some (mst M4 32 1 (nI r)) from sto_ok (i := 1) (by decide), b_s, e6, b_s]
  · refine ⟨(-1000000002, M), ?_, (-1000000002, M), ?_, rfl, hJ⟩
    · unfold f_X10_rule
      by_cases n0 : a0 < 0
      · rw [if_pos n0]
      · rw [if_neg n0, if_neg (show ¬ a0 ≤ (2 : Int32) from fun x => by
          have := (x_leK (k := 2) (by decide)).mp x
          rw [x_lt0] at n0
          omega)]
    · show f_X11_rule M a0 = _
      unfold f_X11_rule
      rw [R_ini (a := 0) (b := 2) _ _ _ _ (by decide) (by decide), b_s, if_neg h, if_pos rfl]
/-- what a deed of the class that touches the past and the row alone leaves -/
theorem HX_low {M M1 M2 : MM} {c c' : Nat → Int32} {n s d : Nat} {P : Nat → Nat → Int32} (hw : WF c n) (hx : CoatsX c n M) (hy : YX c n M) (hPW : PW d P) (F1 : ∀ q, q ≠ 7 → q ≠ 29 → M1 q = M q) (p1 : PX ((s + 1) % 20) (dn d) (push c P) M1) (F2 : ∀ q, q ≠ 10 → M2 q = M1 q) (c2 : Rc c' M2) (hw2 : WF c' n) (h : ∀ i, 13 ≤ i → c' i = c i) (h1 : c' 1 = c 1) : FX M M2 ∧ HX c' n ((s + 1) % 20) (dn d) (push c P) M2 := by
  have g : ∀ q, q ≠ 7 → q ≠ 10 → q ≠ 29 → M2 q = M q := fun q a b d => (F2 q b).trans (F1 q a d)
  refine ⟨fun q hq => g q (cw hq (by decide)) (cw hq (by decide)) (cw hq (by decide)), hw2, Nat.mod_lt _ (by decide), PW_push hw hPW, c2, CoatsX_c h h1 (CoatsX_fr hx (g 2 (by decide) (by decide) (by decide)) (g 11 (by decide) (by decide) (by decide)) (g 12 (by decide) (by decide) (by decide)) (g 13 (by decide) (by decide) (by decide))), YX_c h (YX_fr hy (g 3 (by decide) (by decide) (by decide)) (g 14 (by decide) (by decide) (by decide)) (g 15 (by decide) (by decide) (by decide))), PX_fr p1 (F2 25 (by decide)) (F2 7 (by decide)) (F2 29 (by decide))⟩
theorem op_wipe_ok : op_wipe JJ := by
  intro M hJ
  obtain ⟨⟨c, n, hw, hc, hs, hx, hy⟩, ⟨s, d, P, hsd, hPW, hPX, hPR⟩, -⟩ := id hJ
  obtain ⟨M1, e1, F1, X1, c1, p1⟩ := HX_rem hc hsd hPW.1 hPX
  have hw2 : WF (upd c 2 0) n := WF_low hw (fun i hi => upd_n _ _ (by omega)) (upd_n _ _ (by decide)) (by
    obtain ⟨r, r1, r2⟩ := hw.2.2.1
    exact ⟨r, r1, (upd_n _ _ (by decide)).trans r2⟩) ⟨0, by decide, (upd_s _ _ _).trans rfl, fun i hi => absurd hi (Nat.not_lt_zero i)⟩
  have c2 : Rc (upd c 2 0) (mst M1 10 2 0) := Rc_upd c1 2 0
  obtain ⟨fx, hx2⟩ := HX_low hw hx hy hPW F1 p1 (M2 := mst M1 10 2 0) (fun q hq => mst_n _ _ _ hq) c2 hw2 (fun i hi => upd_n _ _ (by omega)) (upd_n _ _ (by decide))
  have hr2 : HR c d P (mst M1 10 2 0) := HR_fr ⟨hs, hPR⟩ (by rw [fx 31 (by decide)]) (fx 32 (by decide))
  obtain ⟨M4, e4, hr4, f4⟩ := HR_minds hPW.1 hr2
  obtain ⟨hr5, f5⟩ := HR_sto hr4 (j := 2) (k := 2) (by decide) (by decide) 0
  refine ⟨(c 2, mst M1 10 2 0), ?_, (c 2, mst M4 32 2 0), ?_, rfl, JJ_push hJ fx hx2 (FR_t f4 f5) hr5⟩
  · unfold f_X10_wipe
    rw [X7_signs hc, b_s, e1, b_s, X7_clearSigns, b_s]
  · show f_X11_wipe (mst M1 10 2 0) = _
    unfold f_X11_wipe
    rw [e4, b_s, R_len hr4.1, b_s, show z_sto M4 32 3243 (2 : Int32) (0 : Int32) = some (mst M4 32 2 0) from sto_ok (i := 2) (by decide), b_s]
theorem op_sign_ok : op_sign JJ := by
  intro M hJ a0
  obtain ⟨⟨c, n, hw, hc, hs, hx, hy⟩, ⟨s, d, P, hsd, hPW, hPX, hPR⟩, -⟩ := id hJ
  obtain ⟨L, hL, hL2, hL3⟩ := hw.2.2.2.1
  by_cases h : 0 ≤ a0.toInt ∧ a0.toInt ≤ 10
  · obtain ⟨r, hr, rfl⟩ := x_nat (k := 11) h.1 (by omega) (by decide)
    have n0 : ¬ nI r < 0 := nI_nlt0 (by omega)
    have n2 : nI r ≤ (10 : Int32) := nI_le (b := 10) (by omega) (by decide)
    by_cases h10 : L = 10
    · refine ⟨(-1000000004, M), ?_, (-1000000004, M), ?_, rfl, hJ⟩
      · unfold f_X10_sign
        rw [if_neg n0, if_pos n2, X7_signs hc, b_s, hL2, h10, if_neg (by decide)]
      · show f_X11_sign M (nI r) = _
        unfold f_X11_sign
        rw [R_ini (a := 0) (b := 10) _ _ _ _ (by decide) (by decide), b_s, if_pos h, if_neg (show ¬ (1 : Int32) = 0 by decide), R_len hs, b_s, hL2, h10, if_pos (by decide)]
    · have hL9 : L < 10 := by omega
      obtain ⟨M1, e1, F1, X1, c1, p1⟩ := HX_rem hc hsd hPW.1 hPX
      have hw2 : WF (upd (upd c (3 + L) (nI r)) 2 (nI (L + 1))) n := WF_low hw (fun i hi => by rw [upd_n _ _ (by omega), upd_n _ _ (by omega)]) (by rw [upd_n _ _ (by omega), upd_n _ _ (by omega)]) (by
        obtain ⟨r, r1, r2⟩ := hw.2.2.1
        exact ⟨r, r1, by rw [upd_n _ _ (by omega), upd_n _ _ (by omega)]; exact r2⟩) ⟨L + 1, by omega, upd_s _ _ _, fun i hi => by
          rw [upd_n _ _ (by omega)]
          by_cases q : i = L
          · subst q; exact ⟨r, by omega, upd_s _ _ _⟩
          · rw [upd_n _ _ (by omega)]; exact hL3 i (by omega)⟩
      have c2 : Rc (upd (upd c (3 + L) (nI r)) 2 (nI (L + 1))) (mst (mst M1 10 (3 + L) (nI r)) 10 2 (nI (L + 1))) := Rc_upd (Rc_upd c1 _ _) _ _
      obtain ⟨fx, hx2⟩ := HX_low hw hx hy hPW F1 p1 (M2 := mst (mst M1 10 (3 + L) (nI r)) 10 2 (nI (L + 1))) (fun q hq => by rw [mst_n _ _ _ hq, mst_n _ _ _ hq]) c2 hw2 (fun i hi => by rw [upd_n _ _ (by omega), upd_n _ _ (by omega)]) (by rw [upd_n _ _ (by omega), upd_n _ _ (by omega)])
      have hr2 := HR_fr ⟨hs, hPR⟩ (by rw [fx 31 (by decide)]) (fx 32 (by decide))
      obtain ⟨M4, e4, hr4, f4⟩ := HR_minds hPW.1 hr2
      obtain ⟨hr5, f5⟩ := HR_sto hr4 (j := 3 + L) (k := 3 + L) (by omega) (rix_s (by omega)) (nI r)
      obtain ⟨hr6, f6⟩ := HR_sto hr5 (j := 2) (k := 2) (by decide) (by decide) (nI (L + 1))
      refine ⟨(nI (L + 1), mst (mst M1 10 (3 + L) (nI r)) 10 2 (nI (L + 1))), ?_, (nI (L + 1), mst (mst M4 32 (3 + L) (nI r)) 32 2 (nI (L + 1))), ?_, rfl, JJ_push hJ fx hx2 (FR_t f4 (FR_t f5 f6)) hr6⟩
      · unfold f_X10_sign
        rw [if_neg n0, if_pos n2, X7_signs hc, b_s, hL2, if_pos (show nI L < (10 : Int32) from (x_ltK (k := 10) (by decide)).mpr (by rw [ti_n (by omega)]; omega)), e1, b_s, X7_addSign c1 hL9 hL2, b_s, X7_signs c2, b_s, upd_s]
      · show f_X11_sign (mst (mst M1 10 (3 + L) (nI r)) 10 2 (nI (L + 1))) (nI r) = _
        unfold f_X11_sign
        rw [R_ini (a := 0) (b := 10) _ _ _ _ (by decide) (by decide), b_s, if_pos h, if_neg (show ¬ (1 : Int32) = 0 by decide), R_len hr2.1, b_s, hL2, if_neg (show ¬ nI L = (10 : Int32) from fun x => h10 (nI_inj (b := 10) (by omega) (by decide) x)), e4, b_s, R_len hr4.1, b_s, hL2, show (3 : Int32) + nI L = nI (3 + L) from nI_add 3 L, sto_ok (by omega), b_s, R_len hr5.1, b_s, upd_n _ _ (by omega), hL2, nI_1, show ∀ (M : MM) v, z_sto M 32 3243 (2 : Int32) v = some (mst M 32 2 v) from fun M v => sto_ok (i := 2) (by decide), b_s, R_len hr6.1, b_s, upd_s]
  · refine ⟨(-1000000002, M), ?_, (-1000000002, M), ?_, rfl, hJ⟩
    · unfold f_X10_sign
      by_cases n0 : a0 < 0
      · rw [if_pos n0]
      · rw [if_neg n0, if_neg (show ¬ a0 ≤ (10 : Int32) from fun x => by
          have := (x_leK (k := 10) (by decide)).mp x
          rw [x_lt0] at n0
          omega)]
    · show f_X11_sign M a0 = _
      unfold f_X11_sign
      rw [R_ini (a := 0) (b := 10) _ _ _ _ (by decide) (by decide), b_s, if_neg h, if_pos rfl]
/-! bounds of years -/
theorem CoatsX_4 {c c' : Nat → Int32} {n : Nat} (hk : ∀ q j, j < 4 → c' (13 + 8 * q + j) = c (13 + 8 * q + j)) (h1 : c' 1 = c 1) {M : MM} (hx : CoatsX c n M) : CoatsX c' n M := by
  have h0 : ∀ p, c' (13 + 8 * p) = c (13 + 8 * p) := fun p => hk p 0 (by decide)
  have k1 : ∀ p, c' (13 + 8 * p + 1) = c (13 + 8 * p + 1) := fun p => hk p 1 (by decide)
  have k2 : ∀ p, c' (13 + 8 * p + 2) = c (13 + 8 * p + 2) := fun p => hk p 2 (by decide)
  have k3 : ∀ p, c' (13 + 8 * p + 3) = c (13 + 8 * p + 3) := fun p => hk p 3 (by decide)
  have hh : heirB c' n = heirB c n := by
    funext p
    rw [Bool.eq_iff_iff, heirB_t, heirB_t]
    unfold heir
    simp only [h0, k2]
  have hq : ∀ T p, qof c' n T p = qof c n T p := fun T p => by
    unfold qof
    simp only [k1, k2, k3, h1, hh]
  have ht : ∀ p, QT c' n p = QT c n p := fun p => by
    induction p with
    | zero => rfl
    | succ p ih =>
      show (fun j => if j = p then qof c' n (QT c' n p) p else QT c' n p j) = fun j => if j = p then qof c n (QT c n p) p else QT c n p j
      rw [ih, hq]
  unfold CoatsX QQ
  simp only [hh, ht]
  exact hx
theorem WF_bd {c : Nat → Int32} {n p k a b : Nat} (hw : WF c n) (hp : p < n) (hk : k = 4 ∨ k = 6) (ha : a ≤ 999) (hb : b ≤ 999) : WF (upd (upd c (13 + 8 * p + k) (nI a)) (13 + 8 * p + k + 1) (nI b)) n := by
  have lo : ∀ i, i < 13 → upd (upd c (13 + 8 * p + k) (nI a)) (13 + 8 * p + k + 1) (nI b) i = c i := fun i hi => by rw [upd_n _ _ (by omega), upd_n _ _ (by omega)]
  refine ⟨hw.1, (lo 0 (by decide)).trans hw.2.1, ?_, ?_, fun q hq => ?_⟩
  · rw [lo 1 (by decide)]; exact hw.2.2.1
  · obtain ⟨L, l1, l2, l3⟩ := hw.2.2.2.1
    refine ⟨L, l1, (lo 2 (by decide)).trans l2, fun i hi => ?_⟩
    rw [lo (3 + i) (by omega)]; exact l3 i hi
  · obtain ⟨w0, w1, w2, w3, w4⟩ := hw.2.2.2.2 q hq
    have sm : ∀ j, j < 4 → upd (upd c (13 + 8 * p + k) (nI a)) (13 + 8 * p + k + 1) (nI b) (13 + 8 * q + j) = c (13 + 8 * q + j) := fun j hj => by rw [upd_n _ _ (by omega), upd_n _ _ (by omega)]
    have s0 : upd (upd c (13 + 8 * p + k) (nI a)) (13 + 8 * p + k + 1) (nI b) (13 + 8 * q) = c (13 + 8 * q) := sm 0 (by decide)
    refine ⟨by rw [s0]; exact w0, by rw [sm 1 (by decide)]; exact w1, by rw [sm 2 (by decide)]; exact w2, by rw [sm 3 (by decide)]; exact w3, fun j h1 h2 => ?_⟩
    by_cases e1 : 13 + 8 * q + j = 13 + 8 * p + k + 1
    · rw [e1, upd_s]; exact ⟨b, hb, rfl⟩
    · rw [upd_n _ _ e1]
      by_cases e2 : 13 + 8 * q + j = 13 + 8 * p + k
      · rw [e2, upd_s]; exact ⟨a, ha, rfl⟩
      · rw [upd_n _ _ e2]; exact w4 j h1 h2
theorem bounds_ok {k r : Nat} (hk : (k = 4 ∧ r = 77) ∨ (k = 6 ∧ r = 109)) {M : MM} (hJ : JJ M) (a0 a1 a2 : Int32) : ∃ s1 : Int32 × MM, f_X10_boundYears M a0 (nI k) a1 a2 = some s1 ∧ ∃ s2 : Int32 × MM, f_X11_bounds s1.2 (nI r) a0 a1 a2 = some s2 ∧ s1.1 = s2.1 ∧ JJ s2.2 := by
  obtain ⟨⟨c, n, hw, hc, hs, hx, hy⟩, ⟨s, d, P, hsd, hPW, hPX, hPR⟩, -⟩ := id hJ
  have h16 := hw.1
  by_cases hp : ∃ p, p < n ∧ a0 = nI p
  · obtain ⟨p, hp, rfl⟩ := hp
    by_cases h : 0 ≤ a1.toInt ∧ a1.toInt ≤ a2.toInt ∧ a2.toInt ≤ 999
    · obtain ⟨a, ha, rfl⟩ := x_nat (k := 1000) h.1 (by omega) (by decide)
      obtain ⟨b, hb, rfl⟩ := x_nat (x := a2) (k := 1000) (by omega) (by omega) (by decide)
      have hw2 := WF_bd hw hp (k := k) (a := a) (b := b) (by omega) (by omega) (by omega)
      obtain ⟨M1, e1, F1, X1, c1, p1⟩ := HX_rem hc hsd hPW.1 hPX
      have c2 := Rc_upd (Rc_upd c1 (13 + 8 * p + k) (nI a)) (13 + 8 * p + k + 1) (nI b)
      obtain ⟨M3, e3, y3, F3⟩ := X9_reckon hw2 c2
      have g3 : ∀ q, q ≠ 3 → q ≠ 7 → q ≠ 10 → q ≠ 14 → q ≠ 15 → q ≠ 16 → q ≠ 17 → q ≠ 18 → q ≠ 29 → M3 q = M q := fun q a b d e f g h i j => by rw [F3 q a e f g h i, mst_n _ _ _ d, mst_n _ _ _ d, F1 q b j]
      have FX3 : FX M M3 := fun q hq => g3 q (cw hq (by decide)) (cw hq (by decide)) (cw hq (by decide)) (cw hq (by decide)) (cw hq (by decide)) (cw hq (by decide)) (cw hq (by decide)) (cw hq (by decide)) (cw hq (by decide))
      have hx3 : CoatsX (upd (upd c (13 + 8 * p + k) (nI a)) (13 + 8 * p + k + 1) (nI b)) n M3 := by
        have hxm := CoatsX_fr hx (g3 2 (by decide) (by decide) (by decide) (by decide) (by decide) (by decide) (by decide) (by decide) (by decide)) (g3 11 (by decide) (by decide) (by decide) (by decide) (by decide) (by decide) (by decide) (by decide) (by decide)) (g3 12 (by decide) (by decide) (by decide) (by decide) (by decide) (by decide) (by decide) (by decide) (by decide)) (g3 13 (by decide) (by decide) (by decide) (by decide) (by decide) (by decide) (by decide) (by decide) (by decide))
        exact CoatsX_4 (fun q j hj => by rw [upd_n _ _ (by omega), upd_n _ _ (by omega)]) (by rw [upd_n _ _ (by omega), upd_n _ _ (by omega)]) hxm
      have HX3 : HX _ n ((s + 1) % 20) (dn d) (push c P) M3 := ⟨hw2, Nat.mod_lt _ (by decide), PW_push hw hPW, Rc_q c2 (F3 10 (by decide) (by decide) (by decide) (by decide) (by decide) (by decide)), hx3, y3, PX_fr p1 (by rw [F3 25 (by decide) (by decide) (by decide) (by decide) (by decide) (by decide), mst_n _ _ _ (by decide), mst_n _ _ _ (by decide)]) (by rw [F3 7 (by decide) (by decide) (by decide) (by decide) (by decide) (by decide), mst_n _ _ _ (by decide), mst_n _ _ _ (by decide)]) (by rw [F3 29 (by decide) (by decide) (by decide) (by decide) (by decide) (by decide), mst_n _ _ _ (by decide), mst_n _ _ _ (by decide)])⟩
      have hr3 : HR c d P M3 := HR_fr ⟨hs, hPR⟩ (by rw [FX3 31 (by decide)]) (FX3 32 (by decide))
      obtain ⟨M4, e4, hr4, f4⟩ := HR_minds hPW.1 hr3
      have er0 : rix (13 + 8 * p + k) = r + 2 * p := by
        rcases hk with ⟨rfl, rfl⟩ | ⟨rfl, rfl⟩
        · exact rix_4 p (by omega)
        · exact rix_6 p (by omega)
      have er1 : rix (13 + 8 * p + k + 1) = r + 2 * p + 1 := by
        rcases hk with ⟨rfl, rfl⟩ | ⟨rfl, rfl⟩
        · exact rix_5 p (by omega)
        · exact rix_7 p (by omega)
      obtain ⟨hr5, f5⟩ := HR_sto hr4 (j := 13 + 8 * p + k) (by omega) er0 (nI a)
      obtain ⟨hr6, f6⟩ := HR_sto hr5 (j := 13 + 8 * p + k + 1) (by omega) er1 (nI b)
      obtain ⟨M7, e7, F7, -⟩ := R_narrows hw2 hr6.1
      refine ⟨(@ite _ (∃ x, Feas (upd (upd c (13 + 8 * p + k) (nI a)) (13 + 8 * p + k + 1) (nI b)) n x) (Classical.propDecidable _) 0 1, M3), ?_, (@ite _ (∃ x, Feas (upd (upd c (13 + 8 * p + k) (nI a)) (13 + 8 * p + k + 1) (nI b)) n x) (Classical.propDecidable _) 0 1, M7), ?_, rfl, JJ_push hJ FX3 HX3 (FR_t f4 (FR_t f5 (FR_t f6 (FR_n F7)))) (HR_fr hr6 (F7.2 3 (by decide)) (F7.1 32 (by decide) (by decide) (by decide)))⟩
      · unfold f_X10_boundYears
        rw [X7_has_in hc hw hp, b_s, if_neg (show ¬ (1 : Int32) = 0 by decide), areYears, b_s, if_pos h, if_neg (show ¬ (1 : Int32) = 0 by decide), e1, b_s, X7_setBounds c1 hw hp (by omega) (by omega), b_s, e3, b_s, X9_spoiledBit y3, b_s]
      · show f_X11_bounds M3 (nI r) (nI p) (nI a) (nI b) = _
        unfold f_X11_bounds
        rw [R_isOne_in hr3.1 hw hp, b_s, if_neg (show ¬ (1 : Int32) = 0 by decide), R_ini (a := 0) (b := 999) _ _ _ _ (by decide) (by decide), b_s, if_pos (show 0 ≤ (nI a).toInt ∧ (nI a).toInt ≤ 999 by omega), if_neg (show ¬ (1 : Int32) = 0 by decide), R_ini (a := (nI a).toInt) (b := 999) _ _ _ _ (Int32.toInt_toInt64 _) (by decide), b_s, if_pos (show (nI a).toInt ≤ (nI b).toInt ∧ (nI b).toInt ≤ 999 by omega), if_neg (show ¬ (1 : Int32) = 0 by decide), e4, b_s, ix2, sto_ok (by omega), b_s, nI_1, sto_ok (by omega), b_s, e7, b_s]
        dsimp only
        by_cases hf : ∃ x, Feas (upd (upd c (13 + 8 * p + k) (nI a)) (13 + 8 * p + k + 1) (nI b)) n x
        · rw [if_pos hf, if_pos hf, if_neg (show ¬ (1 : Int32) = 0 by decide), b_s]
        · rw [if_neg hf, if_neg hf, if_pos rfl, b_s]
    · refine ⟨(-1000000002, M), ?_, (-1000000002, M), ?_, rfl, hJ⟩
      · unfold f_X10_boundYears
        rw [X7_has_in hc hw hp, b_s, if_neg (show ¬ (1 : Int32) = 0 by decide), areYears, b_s, if_neg h, if_pos rfl]
      · show f_X11_bounds M (nI r) (nI p) a1 a2 = _
        unfold f_X11_bounds
        rw [R_isOne_in hs hw hp, b_s, if_neg (show ¬ (1 : Int32) = 0 by decide), R_ini (a := 0) (b := 999) _ _ _ _ (by decide) (by decide), b_s]
        by_cases h1 : 0 ≤ a1.toInt ∧ a1.toInt ≤ 999
        · rw [if_pos h1, if_neg (show ¬ (1 : Int32) = 0 by decide), R_ini (a := a1.toInt) (b := 999) _ _ _ _ (Int32.toInt_toInt64 a1) (by decide), b_s, if_neg (show ¬ (a1.toInt ≤ a2.toInt ∧ a2.toInt ≤ 999) from fun x => h ⟨h1.1, x.1, x.2⟩), if_pos rfl]
        · rw [if_neg h1, if_pos rfl]
  · refine ⟨(-1000000001, M), ?_, (-1000000001, M), ?_, rfl, hJ⟩
    · unfold f_X10_boundYears
      rw [X7_has_out hc hw hp, b_s, if_pos rfl]
    · show f_X11_bounds M (nI r) a0 a1 a2 = _
      unfold f_X11_bounds
      rw [R_isOne_out hs hw hp, b_s, if_pos rfl]
theorem op_born_ok : op_born JJ := by
  intro M hJ a0 a1 a2
  obtain ⟨s1, e1, s2, e2, h1, h2⟩ := bounds_ok (k := 4) (r := 77) (by decide) hJ a0 a1 a2
  refine ⟨s1, ?_, s2, ?_, h1, h2⟩
  · unfold f_X10_born
    rw [show f_X10_boundYears M a0 (4 : Int32) a1 a2 = some s1 from e1, b_s]
  · unfold f_X11_born
    rw [show f_X11_bounds s1.2 (77 : Int32) a0 a1 a2 = some s2 from e2, b_s]
theorem op_died_ok : op_died JJ := by
  intro M hJ a0 a1 a2
  obtain ⟨s1, e1, s2, e2, h1, h2⟩ := bounds_ok (k := 6) (r := 109) (by decide) hJ a0 a1 a2
  refine ⟨s1, ?_, s2, ?_, h1, h2⟩
  · unfold f_X10_died
    rw [show f_X10_boundYears M a0 (6 : Int32) a1 a2 = some s1 from e1, b_s]
  · unfold f_X11_died
    rw [show f_X11_bounds s1.2 (109 : Int32) a0 a1 a2 = some s2 from e2, b_s]
