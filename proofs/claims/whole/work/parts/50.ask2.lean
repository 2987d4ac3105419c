/-! the other questions -/
theorem op_quarter_ok : op_quarter JJ := by
  intro M hJ a0 a1 a2
  obtain ⟨⟨c, n, hw, hc, hs, hx, hy⟩, -⟩ := id hJ
  have h16 := hw.1
  by_cases hp : ∃ p, p < n ∧ a0 = nI p
  · obtain ⟨p, hp, rfl⟩ := hp
    have hq := (QQ_ok hw p hp).1
    have hl := QOK_len hq
    by_cases h3 : (0 : Int) ≤ a2.toInt ∧ a2.toInt ≤ 1
    · obtain ⟨M1, e1, cr, F1⟩ := R_lays hw hs
      have S1 := Scr_c F1
      have hs1 : Sw c (M1 32) 0 := by rw [F1 32 (by decide) (by decide) (by decide)]; exact hs
      have rr := cr p hp
      have hlen : (nI (QQ c n p).length - (1 : Int32)).toInt = ((QQ c n p).length : Int) - 1 := by
        rw [ti_sub (by rw [ti_n (by omega)]; have : (1 : Int32).toInt = 1 := by decide
                       omega) (by rw [ti_n (by omega)]; have : (1 : Int32).toInt = 1 := by decide
                                  omega), ti_n (by omega)]
        rfl
      have R : ∀ r, f_X11_quarter M (nI p) a1 a2 = r ↔ _ = r := fun r => by
        unfold f_X11_quarter
        rw [R_isOne_in hs hw hp, b_s, if_neg (show ¬ (1 : Int32) = 0 by decide), R_ini (a := 0) (b := 1) _ _ _ _ (by decide) (by decide), b_s, if_pos h3, if_neg (show ¬ (1 : Int32) = 0 by decide), e1, b_s, ld_ok (show p < 17 by omega), b_s, rr.1, R_ini (a := 0) (b := ((QQ c n p).length : Int) - 1) _ _ _ _ (by decide) (by rw [Int32.toInt_toInt64, hlen]), b_s]
      by_cases hk : ∃ k, k < (QQ c n p).length ∧ a1 = nI k
      · obtain ⟨k, hk, rfl⟩ := hk
        obtain ⟨e, he⟩ : ∃ e, (QQ c n p)[k]? = some e := ⟨_, List.getElem?_eq_getElem hk⟩
        have hin : (0 : Int) ≤ (nI k).toInt ∧ (nI k).toInt ≤ ((QQ c n p).length : Int) - 1 := by
          rw [ti_n (by omega)]; omega
        rw [if_pos hin] at R
        have i10 : ((10 : Int32) * nI p) + nI k = nI (10 * p + k) := by
          rw [show (10 : Int32) * nI p = nI (10 * p) from pk_mul 10 p, nI_add]
        rw [i10] at R
        by_cases h0 : a2 = 0
        · refine ⟨e.1, ?_, (e.1, M1), (R _).mpr ?_, rfl, JJ_scr hJ S1⟩
          · unfold f_X10_quarter
            rw [X7_has_in hc hw hp, b_s, if_neg (show ¬ (1 : Int32) = 0 by decide), if_pos h0, X1_armsAt (show p < 17 by omega) (hx.2.2 p hp) hl he, b_s]
          · rw [if_neg (show ¬ (1 : Int32) = 0 by decide), if_pos h0, ld_ok (by omega), b_s, b_s, (rr.2 k e he).1]
        · have h1 : a2 = 1 := ti_eq.mpr (by
            have : a2.toInt ≠ 0 := fun x => h0 (ti_eq.mpr x)
            show a2.toInt = 1
            omega)
          refine ⟨e.2, ?_, (e.2, M1), (R _).mpr ?_, rfl, JJ_scr hJ S1⟩
          · unfold f_X10_quarter
            rw [X7_has_in hc hw hp, b_s, if_neg (show ¬ (1 : Int32) = 0 by decide), if_neg h0, if_pos h1, X1_throughAt (show p < 17 by omega) (hx.2.2 p hp) hl he, b_s]
          · rw [if_neg (show ¬ (1 : Int32) = 0 by decide), if_neg h0, ld_ok (by omega), b_s, b_s, (rr.2 k e he).2]
      · have hno : ¬ ((0 : Int) ≤ a1.toInt ∧ a1.toInt ≤ ((QQ c n p).length : Int) - 1) := fun x => hk (x_nat x.1 (by omega) (by omega))
        rw [if_neg hno] at R
        refine ⟨-1, ?_, (-1, M1), (R _).mpr ?_, rfl, JJ_scr hJ S1⟩
        · unfold f_X10_quarter
          rw [X7_has_in hc hw hp, b_s, if_neg (show ¬ (1 : Int32) = 0 by decide)]
          by_cases h0 : a2 = 0
          · rw [if_pos h0, X1_armsAt_out (show p < 17 by omega) (hx.2.2 p hp) hl hk, b_s]
          · have h1 : a2 = 1 := ti_eq.mpr (by
              have : a2.toInt ≠ 0 := fun x => h0 (ti_eq.mpr x)
              show a2.toInt = 1
              omega)
            rw [if_neg h0, if_pos h1, X1_throughAt_out (show p < 17 by omega) (hx.2.2 p hp) hl hk, b_s]
        · rw [if_pos rfl, b_s]
    · refine ⟨-1000000002, ?_, (-1000000002, M), ?_, rfl, hJ⟩
      · unfold f_X10_quarter
        rw [X7_has_in hc hw hp, b_s, if_neg (show ¬ (1 : Int32) = 0 by decide), if_neg (fun x => h3 (by rw [x]; decide)), if_neg (fun x => h3 (by rw [x]; decide))]
      · unfold f_X11_quarter
        rw [R_isOne_in hs hw hp, b_s, if_neg (show ¬ (1 : Int32) = 0 by decide), R_ini (a := 0) (b := 1) _ _ _ _ (by decide) (by decide), b_s, if_neg h3, if_pos rfl]
  · refine ⟨-1000000001, ?_, (-1000000001, M), ?_, rfl, hJ⟩
    · unfold f_X10_quarter
      rw [X7_has_out hc hw hp, b_s, if_pos rfl]
    · unfold f_X11_quarter
      rw [R_isOne_out hs hw hp, b_s, if_pos rfl]
theorem op_kin_ok : op_kin JJ := by
  intro M hJ a0 a1 a2
  obtain ⟨⟨c, n, hw, hc, hs, hx, hy⟩, -⟩ := id hJ
  have h16 := hw.1
  by_cases hp : ∃ p, p < n ∧ a0 = nI p
  · obtain ⟨p, hp, rfl⟩ := hp
    by_cases hq : ∃ p, p < n ∧ a1 = nI p
    · obtain ⟨q, hq, rfl⟩ := hq
      have X : ∀ r, f_X10_kin M (nI p) (nI q) a2 = r ↔ _ = r := fun r => by
        unfold f_X10_kin
        rw [X7_has_in hc hw hp, b_s, if_neg (show ¬ (1 : Int32) = 0 by decide), X7_has_in hc hw hq, b_s, if_neg (show ¬ (1 : Int32) = 0 by decide)]
      by_cases h3 : (0 : Int) ≤ a2.toInt ∧ a2.toInt ≤ 1
      · obtain ⟨M1, e1, k2, k3, F1⟩ := X4_seek hw hc hp hq
        have S1 : Scr M M1 := ⟨fun q hq => F1 q (ks hq (by decide)) (ks hq (by decide)) (ks hq (by decide)), fun i _ => by rw [F1 31 (by decide) (by decide) (by decide)]⟩
        have hs1 : Sw c (M1 32) 0 := by rw [S1.1 32 (by decide)]; exact hs
        obtain ⟨M2, e2, r2, F2⟩ := R_steps (qa := 44) hw (by decide) hs1 hp
        have hs2 : Sw c (M2 32) 0 := by rw [F2 32 (by decide)]; exact hs1
        obtain ⟨M3, e3, r3, F3⟩ := R_steps (qa := 45) hw (by decide) hs2 hq
        have hs3 : Sw c (M3 32) 0 := by rw [F3 32 (by decide)]; exact hs2
        have r23 : Ra 44 M3 (kst c p) := fun j hj => by rw [F3 44 (by decide)]; exact r2 j hj
        have e4 := R_kin_L59 hw hs3 r23 r3 (show p < 16 by omega) (show q < 16 by omega) (Kv_st hw hp) (Kv_st hw hq) a2 n 0 FU (by omega) (by unfold FU; omega)
        have S : Scr M M3 := Scr_t S1 (Scr_t (Scr_1 (k := 44) (by decide) (by decide) F2) (Scr_1 (k := 45) (by decide) (by decide) F3))
        have R : ∀ r, f_X11_kin M1 (nI p) (nI q) a2 = r ↔ _ = r := fun r => by
          unfold f_X11_kin
          rw [R_isOne_in hs1 hw hp, b_s, if_neg (show ¬ (1 : Int32) = 0 by decide), R_isOne_in hs1 hw hq, b_s, if_neg (show ¬ (1 : Int32) = 0 by decide), R_ini (a := 0) (b := 1) _ _ _ _ (by decide) (by decide), b_s, if_pos h3, if_neg (show ¬ (1 : Int32) = 0 by decide), e2, b_s, e3, b_s, show f_X11_kin_L59 FU M3 a2 (-1 : Int32) (-1 : Int32) (0 : Int32) = some (kn (kst c p) (kst c q) n) from e4, b_s]
        have hn0 : ¬ a2 < 0 := fun x => by rw [x_lt0] at x; omega
        have hl1 : a2 ≤ (1 : Int32) := (x_leK (k := 1) (by decide)).mpr (by omega)
        by_cases h0 : a2 = 0
        · refine ⟨((kn (kst c p) (kst c q) n).1, M1), (X _).mpr ?_, ((kn (kst c p) (kst c q) n).1, M3), (R _).mpr ?_, rfl, JJ_scr hJ S⟩
          · rw [if_neg hn0, if_pos hl1, e1, b_s, if_pos h0, b_s, k2]
          · rw [if_pos h0, b_s]
        · refine ⟨((kn (kst c p) (kst c q) n).2, M1), (X _).mpr ?_, ((kn (kst c p) (kst c q) n).2, M3), (R _).mpr ?_, rfl, JJ_scr hJ S⟩
          · rw [if_neg hn0, if_pos hl1, e1, b_s, if_neg h0, b_s, k3]
          · rw [if_neg h0, b_s]
      · refine ⟨(-1000000002, M), (X _).mpr ?_, (-1000000002, M), ?_, rfl, hJ⟩
        · by_cases hn0 : a2 < 0
          · rw [if_pos hn0]
          · rw [if_neg hn0, if_neg (show ¬ a2 ≤ (1 : Int32) from fun x => by
              have := (x_leK (k := 1) (by decide)).mp x
              rw [x_lt0] at hn0
              omega)]
        · show f_X11_kin M (nI p) (nI q) a2 = _
          unfold f_X11_kin
          rw [R_isOne_in hs hw hp, b_s, if_neg (show ¬ (1 : Int32) = 0 by decide), R_isOne_in hs hw hq, b_s, if_neg (show ¬ (1 : Int32) = 0 by decide), R_ini (a := 0) (b := 1) _ _ _ _ (by decide) (by decide), b_s, if_neg h3, if_pos rfl]
    · refine ⟨(-1000000001, M), ?_, (-1000000001, M), ?_, rfl, hJ⟩
      · unfold f_X10_kin
        rw [X7_has_in hc hw hp, b_s, if_neg (show ¬ (1 : Int32) = 0 by decide), X7_has_out hc hw hq, b_s, if_pos rfl]
      · show f_X11_kin M (nI p) a1 a2 = _
        unfold f_X11_kin
        rw [R_isOne_in hs hw hp, b_s, if_neg (show ¬ (1 : Int32) = 0 by decide), R_isOne_out hs hw hq, b_s, if_pos rfl]
  · refine ⟨(-1000000001, M), ?_, (-1000000001, M), ?_, rfl, hJ⟩
    · unfold f_X10_kin
      rw [X7_has_out hc hw hp, b_s, if_pos rfl]
    · show f_X11_kin M a0 a1 a2 = _
      unfold f_X11_kin
      rw [R_isOne_out hs hw hp, b_s, if_pos rfl]
theorem op_signAt_ok : op_signAt JJ := by
  intro M hJ a0
  obtain ⟨⟨c, n, hw, hc, hs, hx, hy⟩, -⟩ := id hJ
  obtain ⟨L, hL, hL2⟩ := lenL hw
  have hlen : (nI L - (1 : Int32)).toInt = (L : Int) - 1 := by
    rw [ti_sub (by rw [ti_n (by omega)]; have : (1 : Int32).toInt = 1 := by decide
                   omega) (by rw [ti_n (by omega)]; have : (1 : Int32).toInt = 1 := by decide
                              omega), ti_n (by omega)]
    rfl
  have R : ∀ r, f_X11_signAt M a0 = r ↔ _ = r := fun r => by
    unfold f_X11_signAt
    rw [R_len hs, b_s, hL2, R_ini (a := 0) (b := (L : Int) - 1) _ _ _ _ (by decide) (by rw [Int32.toInt_toInt64, hlen]), b_s]
  by_cases hk : ∃ k, k < L ∧ a0 = nI k
  · obtain ⟨k, hk, rfl⟩ := hk
    refine ⟨c (3 + k), ?_, (R _).mpr ?_, hJ⟩
    · unfold f_X10_signAt
      rw [X7_sign_in hc hL hL2 hk, b_s]
    · rw [if_pos (show (0 : Int) ≤ (nI k).toInt ∧ (nI k).toInt ≤ (L : Int) - 1 by rw [ti_n (by omega)]; omega), if_neg (show ¬ (1 : Int32) = 0 by decide), R_sign hs (by omega), b_s, b_s]
  · refine ⟨-1, ?_, (R _).mpr ?_, hJ⟩
    · unfold f_X10_signAt
      rw [X7_sign_out hc hL hL2 hk, b_s]
    · rw [if_neg (show ¬ ((0 : Int) ≤ a0.toInt ∧ a0.toInt ≤ (L : Int) - 1) from fun x => hk (x_nat x.1 (by omega) (by omega))), if_pos rfl, b_s]
theorem FrT_16 {c : Nat → Int32} {n : Nat} {M M1 : MM} (hw : WF c n) (h : JC c n M) (F : FrT 11 12 13 M M1 16) : JC c n M1 := by
  have h16 := hw.1
  obtain ⟨h1, h2, h3, h4, h5⟩ := h
  refine ⟨h1, fun i hi => ?_, ?_, ⟨?_, ?_, fun p hp => ?_⟩, YX_fr h5 (F.1 3 (by decide) (by decide) (by decide)) (F.1 14 (by decide) (by decide) (by decide)) (F.1 15 (by decide) (by decide) (by decide))⟩
  · rw [F.1 10 (by decide) (by decide) (by decide)]; exact h2 i hi
  · rw [F.1 32 (by decide) (by decide) (by decide)]; exact h3
  · rw [F.1 2 (by decide) (by decide) (by decide)]; exact h4.1
  · rw [F.1 2 (by decide) (by decide) (by decide)]; exact h4.2.1
  · exact RowIs_fr F (by omega) (QOK_len (QQ_ok hw p hp).1) (h4.2.2 p hp)
theorem op_would_ok : op_would JJ := by
  intro M hJ a0 a1
  obtain ⟨⟨c, n, hw, hc, hs, hx, hy⟩, -⟩ := id hJ
  have h16 := hw.1
  by_cases hp : ∃ p, p < n ∧ a0 = nI p
  · obtain ⟨p, hp, rfl⟩ := hp
    by_cases hq : ∃ p, p < n ∧ a1 = nI p
    · obtain ⟨q, hq, rfl⟩ := hq
      have X : ∀ r, f_X10_would M (nI p) (nI q) = r ↔ _ = r := fun r => by
        unfold f_X10_would
        rw [X7_has_in hc hw hp, b_s, if_neg (show ¬ (1 : Int32) = 0 by decide), X7_has_in hc hw hq, b_s, if_neg (show ¬ (1 : Int32) = 0 by decide)]
      have R : ∀ M : MM, Sw c (M 32) 0 → ∀ r, f_X11_would M (nI p) (nI q) = r ↔ _ = r := fun M hs r => by
        unfold f_X11_would
        rw [R_isOne_in hs hw hp, b_s, if_neg (show ¬ (1 : Int32) = 0 by decide), R_isOne_in hs hw hq, b_s, if_neg (show ¬ (1 : Int32) = 0 by decide)]
      by_cases hne : nI p = nI q
      · refine ⟨(-1000000001, M), (X _).mpr ?_, (-1000000001, M), (R M hs _).mpr ?_, rfl, hJ⟩
        · rw [if_pos hne]
        · rw [if_pos hne]
      · by_cases hm : c (13 + 8 * p) = 0
        · by_cases hf : c (13 + 8 * q) = 1
          · have fq := QQ_ok hw p hp
            have mq := QQ_ok hw q hq
            have hfx : ∀ a b d (M : MM), RowIs a b d M p (QQ c n p) → isFa a b d M 16 (nI p) (c (13 + 8 * p + 1)) (some (QQ c n p)) := fun a b d M r => Or.inr ⟨p, QQ c n p, rfl, by omega, by omega, rfl, r, fq.1, fq.2⟩
            have hmx : ∀ a b d (M : MM), RowIs a b d M q (QQ c n q) → isMo a b d M c n 16 (nI q) (if heirB c n q = true then some (QQ c n q) else none) := fun a b d M r => by
              by_cases hh : heirB c n q = true
              · rw [if_pos hh]
                exact Or.inr ⟨q, QQ c n q, hq, rfl, hh, by omega, rfl, r, mq.1, mq.2⟩
              · rw [if_neg hh]
                exact Or.inl ⟨rfl, Or.inr ⟨q, hq, rfl, hh⟩⟩
            obtain ⟨M1, e1, r1, F1⟩ := X1_compose hc hw hx.2.1 (show 16 < 17 by decide) (hfx 11 12 13 M (hx.2.2 p hp)) (hmx 11 12 13 M (hx.2.2 q hq)) (fun x => absurd x (nI_ne_m1 (by omega)))
            have J1 := FrT_16 hw ⟨hw, hc, hs, hx, hy⟩ F1
            have hJ1 : JJ M1 := JJ_rest hJ ⟨c, n, J1⟩ (fun q hq => F1.1 q (kr hq (by decide)) (kr hq (by decide)) (kr hq (by decide))) (fun i _ => by rw [F1.1 31 (by decide) (by decide) (by decide)])
            have hs1 := J1.2.2.1
            obtain ⟨M2, e2, cr, F2⟩ := R_lays hw hs1
            have hs2 : Sw c (M2 32) 0 := by rw [F2 32 (by decide) (by decide) (by decide)]; exact hs1
            obtain ⟨M3, e3, r3, -, -, F3⟩ := R_laysOne hs2 hw (show 16 < 17 by decide) (hfx 38 39 40 M2 (cr p hp)) (hmx 38 39 40 M2 (cr q hq))
            have S : Scr M1 M3 := Scr_t (Scr_c F2) ⟨fun q hq => F3.1 q (ks hq (by decide)) (ks hq (by decide)) (ks hq (by decide)), fun i _ => by rw [F3.1 31 (by decide) (by decide) (by decide)]⟩
            refine ⟨(nI (qrow (c 1) (c (13 + 8 * p + 1), nI 16) (some (QQ c n p)) (if heirB c n q = true then some (QQ c n q) else none)).length, M1), (X _).mpr ?_, (nI (qrow (c 1) (c (13 + 8 * p + 1), nI 16) (some (QQ c n p)) (if heirB c n q = true then some (QQ c n q) else none)).length, M3), (R M1 hs1 _).mpr ?_, rfl, JJ_scr hJ1 S⟩
            · rw [if_neg hne, X7_isMan hc hw hp, b_s, if_pos hm, if_neg (show ¬ (1 : Int32) = 0 by decide), X7_isWoman hc hw hq, b_s, if_pos hf, if_neg (show ¬ (1 : Int32) = 0 by decide)]
              unfold f_X1_sizeForChild
              rw [show f_X1_compose M (16 : Int32) (nI p) (nI q) = some M1 from e1, b_s, show f_X1_sizeOf M1 (16 : Int32) = _ from X1_sizeOf (show 16 < 17 by decide) r1, b_s, b_s]
            · rw [if_neg hne, R_isMan hs1 hw hp, b_s, if_pos hm, if_neg (show ¬ (1 : Int32) = 0 by decide), R_isWoman hs1 hw hq, b_s, if_pos hf, if_neg (show ¬ (1 : Int32) = 0 by decide), e2, b_s, R_arms hs2 (by omega), b_s, show f_X11_laysOne M2 (16 : Int32) (c (13 + 8 * p + 1)) (nI p) (nI q) = some M3 from e3, b_s, show z_ld M3 38 17 (16 : Int32) = some (M3 38 16) from ld_ok (i := 16) (by decide), b_s, r3.1]
          · refine ⟨(-1000000003, M), (X _).mpr ?_, (-1000000003, M), (R M hs _).mpr ?_, rfl, hJ⟩
            · rw [if_neg hne, X7_isMan hc hw hp, b_s, if_pos hm, if_neg (show ¬ (1 : Int32) = 0 by decide), X7_isWoman hc hw hq, b_s, if_neg hf, if_pos rfl]
            · rw [if_neg hne, R_isMan hs hw hp, b_s, if_pos hm, if_neg (show ¬ (1 : Int32) = 0 by decide), R_isWoman hs hw hq, b_s, if_neg hf, if_pos rfl]
        · refine ⟨(-1000000003, M), (X _).mpr ?_, (-1000000003, M), (R M hs _).mpr ?_, rfl, hJ⟩
          · rw [if_neg hne, X7_isMan hc hw hp, b_s, if_neg hm, if_pos rfl]
          · rw [if_neg hne, R_isMan hs hw hp, b_s, if_neg hm, if_pos rfl]
    · refine ⟨(-1000000001, M), ?_, (-1000000001, M), ?_, rfl, hJ⟩
      · unfold f_X10_would
        rw [X7_has_in hc hw hp, b_s, if_neg (show ¬ (1 : Int32) = 0 by decide), X7_has_out hc hw hq, b_s, if_pos rfl]
      · show f_X11_would M (nI p) a1 = _
        unfold f_X11_would
        rw [R_isOne_in hs hw hp, b_s, if_neg (show ¬ (1 : Int32) = 0 by decide), R_isOne_out hs hw hq, b_s, if_pos rfl]
  · refine ⟨(-1000000001, M), ?_, (-1000000001, M), ?_, rfl, hJ⟩
    · unfold f_X10_would
      rw [X7_has_out hc hw hp, b_s, if_pos rfl]
    · show f_X11_would M a0 a1 = _
      unfold f_X11_would
      rw [R_isOne_out hs hw hp, b_s, if_pos rfl]
theorem areYears (M : MM) (x y : Int32) : f_X10_areYears M x y = some (if 0 ≤ x.toInt ∧ x.toInt ≤ y.toInt ∧ y.toInt ≤ 999 then 1 else 0) := by
  unfold f_X10_areYears
  by_cases h0 : x < 0
  · rw [if_pos h0, b_s, rz0, if_neg (fun q => by rw [x_lt0] at h0; omega)]
  · rw [if_neg h0]
    by_cases h1 : y < x
    · rw [if_pos h1, b_s, rz0, if_neg (fun q => by rw [ti_lt] at h1; omega)]
    · rw [if_neg h1]
      by_cases h2 : (999 : Int32) < y
      · rw [if_pos h2, b_s, rz0, if_neg (fun q => by have := (x_gtK (k := 999) (by decide)).mp h2; omega)]
      · rw [if_neg h2, b_s, rz1, if_pos]
        rw [x_lt0] at h0
        rw [ti_lt] at h1
        have : ¬ ((999 : Nat) : Int) < y.toInt := fun q => h2 ((x_gtK (k := 999) (by decide)).mpr q)
        omega
/-- who died between x and y, by least and greatest years of death -/
noncomputable def dyB (lo hi : Nat → Int32) (x y : Int32) (p : Nat) : Bool := @decide (¬ y < lo p ∧ ¬ hi p < x) (Classical.propDecidable _)
theorem dyB_t {lo hi : Nat → Int32} {x y : Int32} {p : Nat} : dyB lo hi x y p = true ↔ ¬ y < lo p ∧ ¬ hi p < x := @decide_eq_true_iff _ (Classical.propDecidable _)
section Dated
variable {c : Nat → Int32} {n : Nat} {M : MM}
theorem X9_died_L6 (hw : WF c n) (hy : YX c n M) (hf : ∃ x, Feas c n x) (x y : Int32) : ∀ (k i m : Nat), i + k = n → k < m → f_X9_diedBetween_L6 m M (nI n) x y (bs (dyB (fun p => M 14 (2 * p + 1)) (fun p => M 15 (2 * p + 1)) x y) i) (nI i) = some (bs (dyB (fun p => M 14 (2 * p + 1)) (fun p => M 15 (2 * p + 1)) x y) n) := by
  have h16 := hw.1
  intro k
  induction k with
  | zero =>
    intro i m hi hm
    obtain ⟨m, rfl⟩ : ∃ m', m = m' + 1 := ⟨m - 1, by omega⟩
    obtain rfl : i = n := by omega
    rw [f_X9_diedBetween_L6, if_pos (nI_le (Nat.le_refl _) (by omega))]
  | succ k ih =>
    intro i m hi hm
    obtain ⟨m, rfl⟩ : ∃ m', m = m' + 1 := ⟨m - 1, by omega⟩
    have e := ih (i + 1) m (by omega) (by omega)
    rw [bs_step] at e
    have l : f_X9_leastDeath M (nI i) = some (M 14 (2 * i + 1)) := by
      unfold f_X9_leastDeath
      rw [X9_death, b_s, X9_leastOf hw hy (by omega), if_pos hf, b_s]
    have g : f_X9_greatestDeath M (nI i) = some (M 15 (2 * i + 1)) := by
      unfold f_X9_greatestDeath
      rw [X9_death, b_s, X9_greatestOf hw hy (by omega), if_pos hf, b_s]
    rw [f_X9_diedBetween_L6, if_neg (nI_ge (by omega) (by omega)), if_pos (hy.2.1 hf).1, l, b_s]
    by_cases h1 : y < M 14 (2 * i + 1)
    · rw [if_pos h1, b_s, nI_1]
      rw [if_neg (show ¬ dyB (fun p => M 14 (2 * p + 1)) (fun p => M 15 (2 * p + 1)) x y i = true from fun q => (dyB_t.mp q).1 h1)] at e
      exact e
    · rw [if_neg h1, g, b_s]
      by_cases h2 : M 15 (2 * i + 1) < x
      · rw [if_pos h2, b_s, nI_1]
        rw [if_neg (show ¬ dyB (fun p => M 14 (2 * p + 1)) (fun p => M 15 (2 * p + 1)) x y i = true from fun q => (dyB_t.mp q).2 h2)] at e
        exact e
      · rw [if_neg h2, b_s, nI_1]
        rw [if_pos (show dyB (fun p => M 14 (2 * p + 1)) (fun p => M 15 (2 * p + 1)) x y i = true from dyB_t.mpr ⟨h1, h2⟩)] at e
        exact e
theorem R_dated_L39 (hw : WF c n) (hs : Sw c (M 32) 0) (x y : Int32) : ∀ (k i m : Nat), i + k = n → k < m → f_X11_dated_L39 m M x y 1 (bs (dyB (fun p => M 41 (16 + p)) (fun p => M 42 (16 + p)) x y) i) (nI i) = some (bs (dyB (fun p => M 41 (16 + p)) (fun p => M 42 (16 + p)) x y) n) := by
  have h16 := hw.1
  intro k
  induction k with
  | zero =>
    intro i m hi hm
    obtain ⟨m, rfl⟩ : ∃ m', m = m' + 1 := ⟨m - 1, by omega⟩
    obtain rfl : i = n := by omega
    rw [f_X11_dated_L39, R_n hs hw, b_s, if_pos (nI_le (Nat.le_refl _) (by omega))]
  | succ k ih =>
    intro i m hi hm
    obtain ⟨m, rfl⟩ : ∃ m', m = m' + 1 := ⟨m - 1, by omega⟩
    have e := ih (i + 1) m (by omega) (by omega)
    rw [bs_step] at e
    rw [f_X11_dated_L39, R_n hs hw, b_s, if_neg (nI_ge (by omega) (by omega)), if_neg (show ¬ (1 : Int32) = 0 by decide), show (16 : Int32) + nI i = nI (16 + i) from nI_add 16 i, ld_ok (by omega), b_s]
    by_cases h1 : y < M 41 (16 + i)
    · rw [if_pos h1, b_s, nI_1, zor0]
      rw [if_neg (show ¬ dyB (fun p => M 41 (16 + p)) (fun p => M 42 (16 + p)) x y i = true from fun q => (dyB_t.mp q).1 h1)] at e
      exact e
    · rw [if_neg h1, ld_ok (by omega), b_s]
      by_cases h2 : M 42 (16 + i) < x
      · rw [if_pos h2, b_s, nI_1, zor0]
        rw [if_neg (show ¬ dyB (fun p => M 41 (16 + p)) (fun p => M 42 (16 + p)) x y i = true from fun q => (dyB_t.mp q).2 h2)] at e
        exact e
      · rw [if_neg h2, b_s, nI_1]
        rw [if_pos (show dyB (fun p => M 41 (16 + p)) (fun p => M 42 (16 + p)) x y i = true from dyB_t.mpr ⟨h1, h2⟩)] at e
        exact e
end Dated
theorem FU_s : ∃ m, FU = m + 1 := ⟨99999, rfl⟩
theorem op_dated_ok : op_dated JJ := by
  intro M hJ a0 a1
  obtain ⟨⟨c, n, hw, hc, hs, hx, hy⟩, -⟩ := id hJ
  have h16 := hw.1
  by_cases h : 0 ≤ a0.toInt ∧ a0.toInt ≤ a1.toInt ∧ a1.toInt ≤ 999
  · obtain ⟨M1, e1, F1, r1⟩ := R_narrows hw hs
    have hs1 : Sw c (M1 32) 0 := by rw [F1.1 32 (by decide) (by decide) (by decide)]; exact hs
    have X : ∀ r, f_X10_dated M a0 a1 = r ↔ _ = r := fun r => by
      unfold f_X10_dated f_X9_diedBetween
      rw [areYears, b_s, if_pos h, if_neg (show ¬ (1 : Int32) = 0 by decide), X7_people hc hw, b_s]
    have R : ∀ r, f_X11_dated M a0 a1 = r ↔ _ = r := fun r => by
      unfold f_X11_dated
      rw [R_ini (a := 0) (b := 999) _ _ _ _ (by decide) (by decide), b_s, if_pos (show 0 ≤ a0.toInt ∧ a0.toInt ≤ 999 by omega), if_neg (show ¬ (1 : Int32) = 0 by decide), R_ini (a := a0.toInt) (b := 999) _ _ _ _ (Int32.toInt_toInt64 a0) (by decide), b_s, if_pos (show a0.toInt ≤ a1.toInt ∧ a1.toInt ≤ 999 by omega), if_neg (show ¬ (1 : Int32) = 0 by decide), e1, b_s]
    by_cases hf : ∃ x, Feas c n x
    · have ye := Y_eq hy (r1 hf) hf
      have ex := X9_died_L6 hw hy hf a0 a1 n 0 FU (by omega) (by unfold FU; omega)
      have er := R_dated_L39 hw hs1 a0 a1 n 0 FU (by omega) (by unfold FU; omega)
      have eb : bs (dyB (fun p => M 14 (2 * p + 1)) (fun p => M 15 (2 * p + 1)) a0 a1) n = bs (dyB (fun p => M1 41 (16 + p)) (fun p => M1 42 (16 + p)) a0 a1) n := bs_congr (fun k hk => by
        have := ye (2 * k + 1) (by omega)
        rw [rm_1] at this
        rw [Bool.eq_iff_iff, dyB_t, dyB_t]
        rw [this.1, this.2])
      refine ⟨bs (dyB (fun p => M 14 (2 * p + 1)) (fun p => M 15 (2 * p + 1)) a0 a1) n, (X _).mpr ?_, (bs (dyB (fun p => M 14 (2 * p + 1)) (fun p => M 15 (2 * p + 1)) a0 a1) n, M1), (R _).mpr ?_, rfl, JJ_scr hJ (Scr_n F1)⟩
      · rw [show f_X9_diedBetween_L6 FU M (nI n) a0 a1 (0 : Int32) (0 : Int32) = _ from ex, b_s, b_s]
      · dsimp only
        rw [if_pos hf, show f_X11_dated_L39 FU M1 a0 a1 (1 : Int32) (0 : Int32) (0 : Int32) = _ from er, b_s, eb]
    · obtain ⟨m, hm⟩ := FU_s
      refine ⟨0, (X _).mpr ?_, (0, M1), (R _).mpr ?_, rfl, JJ_scr hJ (Scr_n F1)⟩
      · rw [hm, f_X9_diedBetween_L6]
        by_cases q : nI n ≤ 0
        · rw [if_pos q, b_s, b_s]
        · rw [if_neg q, hy.2.2 hf, if_neg (show ¬ (1 : Int32) = 0 by decide), b_s, b_s]
      · dsimp only
        rw [if_neg hf, hm, f_X11_dated_L39, R_n hs1 hw, b_s]
        by_cases q : nI n ≤ 0
        · rw [if_pos q, b_s]
        · rw [if_neg q, if_pos rfl, b_s]
  · refine ⟨-1000000002, ?_, (-1000000002, M), ?_, rfl, hJ⟩
    · unfold f_X10_dated
      rw [areYears, b_s, if_neg h, if_pos rfl]
    · unfold f_X11_dated
      rw [R_ini (a := 0) (b := 999) _ _ _ _ (by decide) (by decide), b_s]
      by_cases h1 : 0 ≤ a0.toInt ∧ a0.toInt ≤ 999
      · rw [if_pos h1, if_neg (show ¬ (1 : Int32) = 0 by decide), R_ini (a := a0.toInt) (b := 999) _ _ _ _ (Int32.toInt_toInt64 a0) (by decide), b_s, if_neg (show ¬ (a0.toInt ≤ a1.toInt ∧ a1.toInt ≤ 999) from fun x => h ⟨h1.1, x.1, x.2⟩), if_pos rfl]
      · rw [if_neg h1, if_pos rfl]
