/-! a new person: put, and people that come by lot -/
theorem X_all {M : MM} {c : Nat → Int32} {n : Nat} (hw : WF c n) (hc : Rc c M) : ∃ M1, f_X10_reckonAll M = some M1 ∧ CoatsX c n M1 ∧ YX c n M1 ∧ ∀ q, q ∉ [2, 3, 11, 12, 13, 14, 15, 16, 17, 18] → M1 q = M q := by
  obtain ⟨M1, e1, x1, F1⟩ := X1_reckon hw hc
  obtain ⟨M2, e2, y2, F2⟩ := X9_reckon hw (Rc_q hc (F1 10 (by decide) (by decide) (by decide) (by decide)))
  refine ⟨M2, ?_, CoatsX_fr x1 (F2 2 (by decide) (by decide) (by decide) (by decide) (by decide) (by decide)) (F2 11 (by decide) (by decide) (by decide) (by decide) (by decide) (by decide)) (F2 12 (by decide) (by decide) (by decide) (by decide) (by decide) (by decide)) (F2 13 (by decide) (by decide) (by decide) (by decide) (by decide) (by decide)), y2, fun q hq => ?_⟩
  · unfold f_X10_reckonAll
    rw [e1, b_s, e2, b_s]
  · have ne : ∀ k, k ∈ [2, 3, 11, 12, 13, 14, 15, 16, 17, 18] → q ≠ k := fun k hk e => hq (e ▸ hk)
    rw [F2 q (ne 3 (by decide)) (ne 14 (by decide)) (ne 15 (by decide)) (ne 16 (by decide)) (ne 17 (by decide)) (ne 18 (by decide)), F1 q (ne 2 (by decide)) (ne 11 (by decide)) (ne 12 (by decide)) (ne 13 (by decide))]
theorem cput_lo {c : Nat → Int32} {n : Nat} {sex arms fa mo : Int32} {i : Nat} (h : i < 13 + 8 * n) (h0 : i ≠ 0) : cput c n sex arms fa mo i = c i := by
  unfold cput
  rw [upd_n _ _ h0, upd_n _ _ (by omega), upd_n _ _ (by omega), upd_n _ _ (by omega), upd_n _ _ (by omega), upd_n _ _ (by omega), upd_n _ _ (by omega), upd_n _ _ (by omega), upd_n _ _ (by omega)]
theorem cput_0 {c : Nat → Int32} {n : Nat} {sex arms fa mo : Int32} : cput c n sex arms fa mo 0 = nI (n + 1) := upd_s _ _ _
theorem WF_put {c : Nat → Int32} {n : Nat} {sex arms fa mo : Int32} (hw : WF c n) (hn : n < 16) (hs : sex = 0 ∨ sex = 1) (ha : ∃ a, a < 10 ∧ arms = nI a) (hf : fa = -1 ∨ ∃ p, p < n ∧ fa = nI p) (hm : mo = -1 ∨ ∃ p, p < n ∧ mo = nI p) : WF (cput c n sex arms fa mo) (n + 1) := by
  refine ⟨hn, cput_0, ?_, ?_, fun q hq => ?_⟩
  · rw [cput_lo (by omega) (by decide)]; exact hw.2.2.1
  · obtain ⟨L, l1, l2, l3⟩ := hw.2.2.2.1
    refine ⟨L, l1, (cput_lo (by omega) (by decide)).trans l2, fun i hi => ?_⟩
    rw [cput_lo (by omega) (by omega)]; exact l3 i hi
  · rcases Nat.lt_or_ge q n with h | h
    · obtain ⟨w0, w1, w2, w3, w4⟩ := hw.2.2.2.2 q h
      refine ⟨by rw [cput_lo (by omega) (by omega)]; exact w0, by rw [cput_lo (by omega) (by omega)]; exact w1, by rw [cput_lo (by omega) (by omega)]; exact w2, by rw [cput_lo (by omega) (by omega)]; exact w3, fun j h1 h2 => ?_⟩
      rw [cput_lo (by omega) (by omega)]; exact w4 j h1 h2
    · obtain rfl : q = n := by omega
      have v0 : cput c q sex arms fa mo (13 + 8 * q) = sex := by
        show cput c q sex arms fa mo (13 + 8 * q + 0) = sex
        unfold cput
        rw [upd_n _ _ (by omega), upd_n _ _ (by omega), upd_n _ _ (by omega), upd_n _ _ (by omega), upd_n _ _ (by omega), upd_n _ _ (by omega), upd_n _ _ (by omega), upd_n _ _ (by omega), upd_s]
      have v1 : cput c q sex arms fa mo (13 + 8 * q + 1) = arms := by
        unfold cput
        rw [upd_n _ _ (by omega), upd_n _ _ (by omega), upd_n _ _ (by omega), upd_n _ _ (by omega), upd_n _ _ (by omega), upd_n _ _ (by omega), upd_n _ _ (by omega), upd_s]
      have v2 : cput c q sex arms fa mo (13 + 8 * q + 2) = fa := by
        unfold cput
        rw [upd_n _ _ (by omega), upd_n _ _ (by omega), upd_n _ _ (by omega), upd_n _ _ (by omega), upd_n _ _ (by omega), upd_n _ _ (by omega), upd_s]
      have v3 : cput c q sex arms fa mo (13 + 8 * q + 3) = mo := by
        unfold cput
        rw [upd_n _ _ (by omega), upd_n _ _ (by omega), upd_n _ _ (by omega), upd_n _ _ (by omega), upd_n _ _ (by omega), upd_s]
      refine ⟨by rw [v0]; exact hs, by rw [v1]; exact ha, by rw [v2]; exact hf, by rw [v3]; exact hm, fun j h1 h2 => ?_⟩
      have : j = 4 ∨ j = 5 ∨ j = 6 ∨ j = 7 := by omega
      rcases this with rfl | rfl | rfl | rfl
      · refine ⟨0, by decide, ?_⟩
        unfold cput
        rw [upd_n _ _ (by omega), upd_n _ _ (by omega), upd_n _ _ (by omega), upd_n _ _ (by omega), upd_s]; rfl
      · refine ⟨999, by decide, ?_⟩
        unfold cput
        rw [upd_n _ _ (by omega), upd_n _ _ (by omega), upd_n _ _ (by omega), upd_s]; rfl
      · refine ⟨0, by decide, ?_⟩
        unfold cput
        rw [upd_n _ _ (by omega), upd_n _ _ (by omega), upd_s]; rfl
      · refine ⟨999, by decide, ?_⟩
        unfold cput
        rw [upd_n _ _ (by omega), upd_s]; rfl
theorem parms_ok {c : Nat → Int32} {n : Nat} {arms fa : Int32} (hw : WF c n) (ha : ∃ a, a < 10 ∧ arms = nI a) (hf : fa = -1 ∨ ∃ p, p < n ∧ fa = nI p) : ∃ a, a < 10 ∧ parms c arms fa = nI a := by
  have h16 := hw.1
  unfold parms
  by_cases h : fa = -1
  · rw [if_pos h]; exact ha
  · rw [if_neg h]
    obtain ⟨p, hp, rfl⟩ := hf.resolve_left h
    rw [nI_clamp (by omega)]
    exact (hw.2.2.2.2 p hp).2.1
theorem R_0 {M : MM} {c : Nat → Int32} (hs : Sw c (M 32) 0) : z_ld M 32 3243 (0 : Int32) = some (c 0) := ldR hs (i := 0) (j := 0) (by decide) (by decide)
theorem R_comes {M : MM} {c : Nat → Int32} {n d : Nat} {P : Nat → Nat → Int32} {x1 x2 x3 x4 : Int32} (hw : WF c n) (hn : n < 16) (h : HR c d P M) (hf : x3 = -1 ∨ ∃ p, p < n ∧ x3 = nI p) : ∃ M1, f_X11_comes M x1 x2 x3 x4 = some M1 ∧ HR (cput c n x1 (parms c x2 x3) x3 x4) d P M1 ∧ FR M M1 := by
  obtain ⟨h1, f1⟩ := HR_sto h (j := 13 + 8 * n + 0) (by omega) (rix_0 n hn) x1
  have ej : (if x3 = (-1 : Int32) then some x2 else (z_ld (mst M 32 (13 + n) x1) 32 3243 ((29 : Int32) + x3)).bind fun (v45 : Int32) => some v45) = some (parms c x2 x3) := by
    unfold parms
    by_cases q : x3 = -1
    · rw [if_pos q, if_pos q]
    · rw [if_neg q, if_neg q]
      obtain ⟨p, hp, rfl⟩ := hf.resolve_left q
      rw [R_arms h1.1 (by omega), b_s, upd_n _ _ (by omega), nI_clamp (by omega)]
  obtain ⟨h2, f2⟩ := HR_sto h1 (j := 13 + 8 * n + 1) (by omega) (rix_1 n hn) (parms c x2 x3)
  obtain ⟨h3, f3⟩ := HR_sto h2 (j := 13 + 8 * n + 2) (by omega) (rix_2 n hn) x3
  obtain ⟨h4, f4⟩ := HR_sto h3 (j := 13 + 8 * n + 3) (by omega) (rix_3 n hn) x4
  obtain ⟨h5, f5⟩ := HR_sto h4 (j := 13 + 8 * n + 4) (by omega) (rix_4 n hn) 0
  obtain ⟨h6, f6⟩ := HR_sto h5 (j := 13 + 8 * n + 5) (by omega) (rix_5 n hn) 999
  obtain ⟨h7, f7⟩ := HR_sto h6 (j := 13 + 8 * n + 6) (by omega) (rix_6 n hn) 0
  obtain ⟨h8, f8⟩ := HR_sto h7 (j := 13 + 8 * n + 7) (by omega) (rix_7 n hn) 999
  obtain ⟨h9, f9⟩ := HR_sto h8 (j := 0) (k := 0) (by decide) (by decide) (nI (n + 1))
  refine ⟨_, ?_, h9, FR_t f1 (FR_t f2 (FR_t f3 (FR_t f4 (FR_t f5 (FR_t f6 (FR_t f7 (FR_t f8 f9)))))))⟩
  unfold f_X11_comes
  rw [R_n h.1 hw, b_s, show (13 : Int32) + nI n = nI (13 + n) from nI_add 13 n, sto_ok (by omega), b_s, ej, b_s, show (29 : Int32) + nI n = nI (29 + n) from nI_add 29 n, sto_ok (by omega), b_s, show (45 : Int32) + nI n = nI (45 + n) from nI_add 45 n, sto_ok (by omega), b_s, show (61 : Int32) + nI n = nI (61 + n) from nI_add 61 n, sto_ok (by omega), b_s, show (77 : Int32) + (2 : Int32) * nI n = nI (77 + 2 * n) from ix2 77 n, sto_ok (by omega), b_s, show nI (77 + 2 * n) + (1 : Int32) = nI (77 + 2 * n + 1) from nI_1 _, sto_ok (by omega), b_s, show (109 : Int32) + (2 : Int32) * nI n = nI (109 + 2 * n) from ix2 109 n, sto_ok (by omega), b_s, show nI (109 + 2 * n) + (1 : Int32) = nI (109 + 2 * n + 1) from nI_1 _, sto_ok (by omega), b_s, R_0 h8.1, b_s]
  rw [upd_n _ _ (by omega), upd_n _ _ (by omega), upd_n _ _ (by omega), upd_n _ _ (by omega), upd_n _ _ (by omega), upd_n _ _ (by omega), upd_n _ _ (by omega), upd_n _ _ (by omega), hw.2.1, nI_1, show ∀ (M : MM) v, z_sto M 32 3243 (0 : Int32) v = some (mst M 32 0 v) from fun M v => sto_ok (i := 0) (by decide), b_s]
/-- the class's new person, once all is allowed -/
theorem X_putp {M : MM} {c : Nat → Int32} {n s d : Nat} {P : Nat → Nat → Int32} {x1 x2 x3 x4 : Int32} (hw : WF c n) (hn : n < 16) (hc : Rc c M) (hsd : s < 20) (hPW : PW d P) (hPX : PX s d P M) (h1 : x1 = 0 ∨ x1 = 1) (h2 : ∃ a, a < 10 ∧ x2 = nI a) (h3 : x3 = -1 ∨ ∃ p, p < n ∧ x3 = nI p) (h4 : x4 = -1 ∨ ∃ p, p < n ∧ x4 = nI p) : ∃ M1, f_X10_put_T82 M x1 x2 x3 x4 = some (nI n, M1) ∧ FX M M1 ∧ HX (cput c n x1 (parms c x2 x3) x3 x4) (n + 1) ((s + 1) % 20) (dn d) (push c P) M1 := by
  obtain ⟨M1, e1, F1, X1, c1, p1⟩ := HX_rem hc hsd hPW.1 hPX
  have hw2 := WF_put hw hn h1 (parms_ok hw h2 h3) h3 h4
  have c2 := Rc_put c1 n x1 (parms c x2 x3) x3 x4
  obtain ⟨M3, e3, x3', y3, F3⟩ := X_all hw2 c2
  have g : ∀ q, q ∉ [2, 3, 11, 12, 13, 14, 15, 16, 17, 18] → q ≠ 10 → M3 q = M1 q := fun q a b => (F3 q a).trans (mput_n _ _ _ _ _ _ b)
  refine ⟨M3, ?_, fun q hq => ?_, hw2, Nat.mod_lt _ (by decide), PW_push hw hPW, Rc_q c2 (F3 10 (by decide)), x3', y3, PX_fr p1 (g 25 (by decide) (by decide)) (g 7 (by decide) (by decide)) (g 29 (by decide) (by decide))⟩
  · unfold f_X10_put_T82
    rw [X7_hasRoom hc hw, b_s, if_pos hn, if_neg (show ¬ (1 : Int32) = 0 by decide), e1, b_s, X7_addPerson c1 hw hn h3, b_s, e3, b_s, X7_people (Rc_q c2 (F3 10 (by decide))) hw2, b_s, show nI (n + 1) - (1 : Int32) = nI n from pk_sub (b := 1) (by omega)]
  · rw [g q (fun x => hq ?_) (cw hq (by decide)), X1 q hq]
    have : ∀ k, k ∈ [2, 3, 11, 12, 13, 14, 15, 16, 17, 18] → k ∈ CW := by decide
    exact this q x
theorem op_put_ok : op_put JJ := by
  intro M hJ a0 a1 a2 a3
  obtain ⟨⟨c, n, hw, hc, hs, hx, hy⟩, ⟨s, d, P, hsd, hPW, hPX, hPR⟩, -⟩ := id hJ
  have h16 := hw.1
  have o : ¬ (1 : Int32) = 0 := by decide
  have bad : ∀ v : Int32, f_X10_put M a0 a1 a2 a3 = some (v, M) → f_X11_put M a0 a1 a2 a3 = some (v, M) → ∃ s1 : Int32 × MM, f_X10_put M a0 a1 a2 a3 = some s1 ∧ ∃ s2 : Int32 × MM, f_X11_put s1.2 a0 a1 a2 a3 = some s2 ∧ s1.1 = s2.1 ∧ JJ s2.2 := fun v x y => ⟨(v, M), x, (v, M), y, rfl, hJ⟩
  by_cases h3 : a2 = -1 ∨ ∃ p, p < n ∧ a2 = nI p
  · have R3 : ∀ M : MM, Sw c (M 32) 0 → f_X11_put M a0 a1 a2 a3 = f_X11_put_T13 M a0 a1 a2 a3 := fun M hs => by
      unfold f_X11_put
      by_cases q : a2 = -1
      · rw [if_pos q]
      · obtain ⟨p, hp, e⟩ := h3.resolve_left q
        rw [if_neg q, e, R_isOne_in hs hw hp, b_s, if_neg o]
    by_cases h4 : a3 = -1 ∨ ∃ p, p < n ∧ a3 = nI p
    · have R4 : ∀ M : MM, Sw c (M 32) 0 → f_X11_put_T13 M a0 a1 a2 a3 = f_X11_put_T31 M a0 a1 a2 a3 := fun M hs => by
        unfold f_X11_put_T13
        by_cases q : a3 = -1
        · rw [if_pos q]
        · obtain ⟨p, hp, e⟩ := h4.resolve_left q
          rw [if_neg q, e, R_isOne_in hs hw hp, b_s, if_neg o]
      by_cases h1 : 0 ≤ a0.toInt ∧ a0.toInt ≤ 1
      · have n0 : ¬ a0 < 0 := fun x => by rw [x_lt0] at x; omega
        have n1 : ¬ (1 : Int32) < a0 := fun x => by have := (x_gtK (k := 1) (by decide)).mp x; omega
        have h01 : a0 = 0 ∨ a0 = 1 := by
          have : a0.toInt = 0 ∨ a0.toInt = 1 := by omega
          rcases this with q | q
          · exact Or.inl (ti_eq.mpr q)
          · exact Or.inr (ti_eq.mpr q)
        by_cases h2 : 0 ≤ a1.toInt ∧ a1.toInt ≤ 9
        · have ha : ∃ a, a < 10 ∧ a1 = nI a := x_nat h2.1 (by omega) (by decide)
          have X : ∀ r, f_X10_put M a0 a1 a2 a3 = r ↔ _ = r := fun r => by
            unfold f_X10_put
            rw [X7_hasOrNone_in hc hw h3, b_s, if_neg o, X7_hasOrNone_in hc hw h4, b_s, if_neg o, if_neg n0, if_neg n1, isArms, b_s, if_pos h2, if_neg o]
          have R : ∀ M : MM, Sw c (M 32) 0 → ∀ r, f_X11_put M a0 a1 a2 a3 = r ↔ _ = r := fun M hs r => by
            rw [R3 M hs, R4 M hs, f_X11_put_T31, R_ini (a := 0) (b := 1) _ _ _ _ (by decide) (by decide), b_s, if_pos h1, if_neg o, R_ini (a := 0) (b := 9) _ _ _ _ (by decide) (by decide), b_s, if_pos h2, if_neg o]
          by_cases hman : a2 = -1 ∨ ∃ p, p < n ∧ a2 = nI p ∧ c (13 + 8 * p) = 0
          · have Xm : (if a2 = (-1 : Int32) then f_X10_put_T61 M a0 a1 a2 a3 else (f_X7_isMan M a2).bind fun (v55 : Int32) => if v55 = 0 then some ((-1000000003 : Int32), M) else f_X10_put_T61 M a0 a1 a2 a3) = f_X10_put_T61 M a0 a1 a2 a3 := by
              by_cases q : a2 = -1
              · rw [if_pos q]
              · obtain ⟨p, hp, e, hm⟩ := hman.resolve_left q
                rw [if_neg q, e, X7_isMan hc hw hp, b_s, if_pos hm, if_neg o]
            have Rm : ∀ M : MM, Sw c (M 32) 0 → (if a2 = (-1 : Int32) then f_X11_put_T69 M a0 a1 a2 a3 else (f_X11_isMan M a2).bind fun (v63 : Int32) => if v63 = 0 then some ((-1000000003 : Int32), M) else f_X11_put_T69 M a0 a1 a2 a3) = f_X11_put_T69 M a0 a1 a2 a3 := fun M hs => by
              by_cases q : a2 = -1
              · rw [if_pos q]
              · obtain ⟨p, hp, e, hm⟩ := hman.resolve_left q
                rw [if_neg q, e, R_isMan hs hw hp, b_s, if_pos hm, if_neg o]
            by_cases hwo : a3 = -1 ∨ ∃ p, p < n ∧ a3 = nI p ∧ c (13 + 8 * p) = 1
            · have Xw : f_X10_put_T61 M a0 a1 a2 a3 = f_X10_put_T82 M a0 a1 a2 a3 := by
                unfold f_X10_put_T61
                by_cases q : a3 = -1
                · rw [if_pos q]
                · obtain ⟨p, hp, e, hm⟩ := hwo.resolve_left q
                  rw [if_neg q, e, X7_isWoman hc hw hp, b_s, if_pos hm, if_neg o]
              have Rw : ∀ M : MM, Sw c (M 32) 0 → f_X11_put_T69 M a0 a1 a2 a3 = f_X11_put_T87 M a0 a1 a2 a3 := fun M hs => by
                unfold f_X11_put_T69
                by_cases q : a3 = -1
                · rw [if_pos q]
                · obtain ⟨p, hp, e, hm⟩ := hwo.resolve_left q
                  rw [if_neg q, e, R_isWoman hs hw hp, b_s, if_pos hm, if_neg o]
              by_cases hn : n < 16
              · obtain ⟨M1, e1, fx, hx1⟩ := X_putp hw hn hc hsd hPW hPX h01 ha h3 h4
                have hr1 : HR c d P M1 := HR_fr ⟨hs, hPR⟩ (by rw [fx 31 (by decide)]) (fx 32 (by decide))
                obtain ⟨M2, e2, hr2, f2⟩ := HR_minds hPW.1 hr1
                obtain ⟨M3, e3, hr3, f3⟩ := R_comes (x1 := a0) (x2 := a1) (x4 := a3) hw hn hr2 h3
                refine ⟨(nI n, M1), (X _).mpr (Xm.trans (Xw.trans e1)), (nI n, M3), (R M1 hr1.1 _).mpr ((Rm M1 hr1.1).trans ((Rw M1 hr1.1).trans ?_)), rfl, JJ_push hJ fx hx1 (FR_t f2 f3) hr3⟩
                unfold f_X11_put_T87
                rw [R_n hr1.1 hw, b_s, if_neg (show ¬ nI n = (16 : Int32) from fun x => by have := nI_inj (b := 16) (by omega) (by decide) x; omega), e2, b_s, e3, b_s, R_0 hr3.1, b_s, cput_0, show nI (n + 1) - (1 : Int32) = nI n from pk_sub (b := 1) (by omega)]
              · refine bad (-1000000004) ((X _).mpr (Xm.trans (Xw.trans ?_))) ((R M hs _).mpr ((Rm M hs).trans ((Rw M hs).trans ?_)))
                · unfold f_X10_put_T82
                  rw [X7_hasRoom hc hw, b_s, if_neg hn, if_pos rfl]
                · unfold f_X11_put_T87
                  obtain rfl : n = 16 := by omega
                  rw [R_n hs hw, b_s, if_pos (by decide)]
            · obtain ⟨p, hp, e⟩ := h4.resolve_left (fun x => hwo (Or.inl x))
              have hne : ¬ a3 = -1 := fun x => hwo (Or.inl x)
              have hm : ¬ c (13 + 8 * p) = 1 := fun x => hwo (Or.inr ⟨p, hp, e, x⟩)
              refine bad (-1000000003) ((X _).mpr (Xm.trans ?_)) ((R M hs _).mpr ((Rm M hs).trans ?_))
              · unfold f_X10_put_T61
                rw [if_neg hne, e, X7_isWoman hc hw hp, b_s, if_neg hm, if_pos rfl]
              · unfold f_X11_put_T69
                rw [if_neg hne, e, R_isWoman hs hw hp, b_s, if_neg hm, if_pos rfl]
          · obtain ⟨p, hp, e⟩ := h3.resolve_left (fun x => hman (Or.inl x))
            have hne : ¬ a2 = -1 := fun x => hman (Or.inl x)
            have hm : ¬ c (13 + 8 * p) = 0 := fun x => hman (Or.inr ⟨p, hp, e, x⟩)
            refine bad (-1000000003) ((X _).mpr ?_) ((R M hs _).mpr ?_)
            · rw [if_neg hne, show f_X7_isMan M a2 = f_X7_isMan M (nI p) by rw [e], X7_isMan hc hw hp, b_s, if_neg hm, if_pos rfl]
            · rw [if_neg hne, show f_X11_isMan M a2 = f_X11_isMan M (nI p) by rw [e], R_isMan hs hw hp, b_s, if_neg hm, if_pos rfl]
        · refine bad (-1000000002) ?_ ?_
          · unfold f_X10_put
            rw [X7_hasOrNone_in hc hw h3, b_s, if_neg o, X7_hasOrNone_in hc hw h4, b_s, if_neg o, if_neg n0, if_neg n1, isArms, b_s, if_neg h2, if_pos rfl]
          · rw [R3 M hs, R4 M hs]
            unfold f_X11_put_T31
            rw [R_ini (a := 0) (b := 1) _ _ _ _ (by decide) (by decide), b_s, if_pos h1, if_neg o, R_ini (a := 0) (b := 9) _ _ _ _ (by decide) (by decide), b_s, if_neg h2, if_pos rfl]
      · refine bad (-1000000002) ?_ ?_
        · unfold f_X10_put
          rw [X7_hasOrNone_in hc hw h3, b_s, if_neg o, X7_hasOrNone_in hc hw h4, b_s, if_neg o]
          by_cases n0 : a0 < 0
          · rw [if_pos n0]
          · rw [if_neg n0, if_pos (show (1 : Int32) < a0 from (x_gtK (k := 1) (by decide)).mpr (by rw [x_lt0] at n0; omega))]
        · rw [R3 M hs, R4 M hs]
          unfold f_X11_put_T31
          rw [R_ini (a := 0) (b := 1) _ _ _ _ (by decide) (by decide), b_s, if_neg h1, if_pos rfl]
    · refine bad (-1000000001) ?_ ?_
      · unfold f_X10_put
        rw [X7_hasOrNone_in hc hw h3, b_s, if_neg o, X7_hasOrNone_out hc hw (fun x => h4 (Or.inl x)) (fun x => h4 (Or.inr x)), b_s, if_pos rfl]
      · rw [R3 M hs]
        unfold f_X11_put_T13
        rw [if_neg (fun x => h4 (Or.inl x)), R_isOne_out hs hw (fun x => h4 (Or.inr x)), b_s, if_pos rfl]
  · refine bad (-1000000001) ?_ ?_
    · unfold f_X10_put
      rw [X7_hasOrNone_out hc hw (fun x => h3 (Or.inl x)) (fun x => h3 (Or.inr x)), b_s, if_pos rfl]
    · unfold f_X11_put
      rw [if_neg (fun x => h3 (Or.inl x)), R_isOne_out hs hw (fun x => h3 (Or.inr x)), b_s, if_pos rfl]
