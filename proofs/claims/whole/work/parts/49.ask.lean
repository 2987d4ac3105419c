/-! what holds between two of the law's steps; the questions -/
theorem x_lt0 {x : Int32} : x < 0 ↔ x.toInt < 0 := by
  rw [ti_lt]
  exact Iff.rfl
theorem x_leK {x : Int32} {k : Nat} (hk : k < 2 ^ 31) : x ≤ nI k ↔ x.toInt ≤ k := by rw [ti_le, ti_n hk]
theorem x_ltK {x : Int32} {k : Nat} (hk : k < 2 ^ 31) : x < nI k ↔ x.toInt < k := by rw [ti_lt, ti_n hk]
theorem x_geK {x : Int32} {k : Nat} (hk : k < 2 ^ 31) : nI k ≤ x ↔ (k : Int) ≤ x.toInt := by rw [ti_le, ti_n hk]
theorem x_gtK {x : Int32} {k : Nat} (hk : k < 2 ^ 31) : nI k < x ↔ (k : Int) < x.toInt := by rw [ti_lt, ti_n hk]
theorem x_nat {x : Int32} {k : Nat} (h0 : 0 ≤ x.toInt) (h : x.toInt < k) (hk : k < 2 ^ 31) : ∃ j, j < k ∧ x = nI j := by
  rcases ix3 x hk with a | ⟨-, a⟩ | a
  · rw [x_lt0] at a; omega
  · rw [x_geK hk] at a; omega
  · exact a
def JP (M : MM) : Prop := ∃ (s d : Nat) (P : Nat → Nat → Int32), s < 20 ∧ PW d P ∧ PX s d P M ∧ PR d P M
def JI (M : MM) : Prop := M 26 0 = 2 ∧ ∀ j, j < 2 → M 34 j = M 28 j ∧ (M 28 j = 0 ∨ M 28 j = 1) ∧ (M 28 j = 1 → M 33 j = M 27 j ∧ 0 ≤ M 27 j ∧ ∃ (Q : Nat → Int32) (m : Nat), WF Q m ∧ (∀ i, i < 141 → M 30 (141 * j + i) = Q i) ∧ Sw Q (M 32) (1 + j))
def JS (M : MM) : Prop := M 31 4 = M 9 0 ∧ 0 ≤ M 9 0
def JB (M : MM) : Prop := ∃ (bw bp ba : Nat → Int32) (e : Nat), BKok bw bp ba e ∧ M 6 3 = nI e ∧ M 31 5 = nI e ∧ (∀ i, i < e → M 22 i = bw i ∧ M 23 i = bp i ∧ M 24 i = ba i) ∧ ∀ i, i < e → M 35 i = bw i ∧ M 36 i = bp i ∧ M 37 i = ba i
def JC (c : Nat → Int32) (n : Nat) (M : MM) : Prop := WF c n ∧ Rc c M ∧ Sw c (M 32) 0 ∧ CoatsX c n M ∧ YX c n M
def JJ (M : MM) : Prop := (∃ c n, JC c n M) ∧ JP M ∧ JI M ∧ JS M ∧ JB M
theorem JI_fr {M M1 : MM} (h : JI M) (a : M1 26 = M 26) (b : M1 27 = M 27) (d : M1 28 = M 28) (e : M1 30 = M 30) (f : M1 33 = M 33) (g : M1 34 = M 34) (k : ∀ i, 141 ≤ i → i < 423 → M1 32 i = M 32 i) : JI M1 := by
  unfold JI
  rw [a, b, d, e, f, g]
  refine ⟨h.1, fun j hj => ⟨(h.2 j hj).1, (h.2 j hj).2.1, fun x => ?_⟩⟩
  obtain ⟨h1, h2, Q, m, h3, h4, h5⟩ := (h.2 j hj).2.2 x
  exact ⟨h1, h2, Q, m, h3, h4, Sw_fr h5 (fun i a b => k i (by omega) (by omega))⟩
theorem JS_fr {M M1 : MM} (h : JS M) (a : M1 9 = M 9) (b : M1 31 4 = M 31 4) : JS M1 := by
  unfold JS
  rw [a, b]; exact h
theorem JB_fr {M M1 : MM} (h : JB M) (a : M1 6 = M 6) (b : M1 22 = M 22) (d : M1 23 = M 23) (e : M1 24 = M 24) (f : M1 35 = M 35) (g : M1 36 = M 36) (k : M1 37 = M 37) (l : M1 31 5 = M 31 5) : JB M1 := by
  unfold JB
  rw [a, b, d, e, f, g, k, l]; exact h
theorem JP_fr {M M1 : MM} (h : JP M) (a : M1 25 = M 25) (b : M1 7 = M 7) (d : M1 29 = M 29) (e : M1 32 = M 32) (f : M1 31 3 = M 31 3) : JP M1 := by
  obtain ⟨s, d', P, h1, h2, h3, h4⟩ := h
  exact ⟨s, d', P, h1, h2, PX_fr h3 a b d, PR_fr h4 f (fun i _ => by rw [e])⟩
theorem CoatsX_fr {c : Nat → Int32} {n : Nat} {M M1 : MM} (h : CoatsX c n M) (a : M1 2 = M 2) (b : M1 11 = M 11) (d : M1 12 = M 12) (e : M1 13 = M 13) : CoatsX c n M1 := by
  unfold CoatsX RowIs
  rw [a, b, d, e]; exact h
theorem YX_fr {c : Nat → Int32} {n : Nat} {M M1 : MM} (h : YX c n M) (a : M1 3 = M 3) (b : M1 14 = M 14) (d : M1 15 = M 15) : YX c n M1 := by
  unfold YX
  rw [a, b, d]; exact h
def KR : List Nat := [6, 7, 9, 22, 23, 24, 25, 26, 27, 28, 29, 30, 32, 33, 34, 35, 36, 37]
theorem kr {q k : Nat} (h : q ∈ KR) (hk : k ∉ KR) : q ≠ k := fun e => hk (e ▸ h)
theorem JJ_rest {M M1 : MM} (h : JJ M) (hc : ∃ c n, JC c n M1) (k : ∀ q, q ∈ KR → M1 q = M q) (k1 : ∀ i, i ≠ 14 → M1 31 i = M 31 i) : JJ M1 := by
  obtain ⟨-, h1, h2, h3, h4⟩ := h
  have k32 := k 32 (by decide)
  exact ⟨hc, JP_fr h1 (k 25 (by decide)) (k 7 (by decide)) (k 29 (by decide)) k32 (k1 3 (by decide)), JI_fr h2 (k 26 (by decide)) (k 27 (by decide)) (k 28 (by decide)) (k 30 (by decide)) (k 33 (by decide)) (k 34 (by decide)) (fun i _ _ => by rw [k32]), JS_fr h3 (k 9 (by decide)) (k1 4 (by decide)), JB_fr h4 (k 6 (by decide)) (k 22 (by decide)) (k 23 (by decide)) (k 24 (by decide)) (k 35 (by decide)) (k 36 (by decide)) (k 37 (by decide)) (k1 5 (by decide))⟩
def KS : List Nat := [2, 3, 6, 7, 9, 10, 11, 12, 13, 14, 15, 22, 23, 24, 25, 26, 27, 28, 29, 30, 32, 33, 34, 35, 36, 37]
theorem ks {q k : Nat} (h : q ∈ KS) (hk : k ∉ KS) : q ≠ k := fun e => hk (e ▸ h)
theorem krs : ∀ q, q ∈ KR → q ∈ KS := by decide
def Scr (M M1 : MM) : Prop := (∀ q, q ∈ KS → M1 q = M q) ∧ ∀ i, i ≠ 14 → M1 31 i = M 31 i
theorem Scr_r (M : MM) : Scr M M := ⟨fun _ _ => rfl, fun _ _ => rfl⟩
theorem Scr_t {M M1 M2 : MM} (h : Scr M M1) (h2 : Scr M1 M2) : Scr M M2 := ⟨fun q hq => (h2.1 q hq).trans (h.1 q hq), fun i hi => (h2.2 i hi).trans (h.2 i hi)⟩
theorem JC_scr {c : Nat → Int32} {n : Nat} {M M1 : MM} (h : JC c n M) (k : Scr M M1) : JC c n M1 := by
  obtain ⟨h1, h2, h3, h4, h5⟩ := h
  exact ⟨h1, fun i hi => by rw [k.1 10 (by decide)]; exact h2 i hi, by rw [k.1 32 (by decide)]; exact h3, CoatsX_fr h4 (k.1 2 (by decide)) (k.1 11 (by decide)) (k.1 12 (by decide)) (k.1 13 (by decide)), YX_fr h5 (k.1 3 (by decide)) (k.1 14 (by decide)) (k.1 15 (by decide))⟩
theorem JJ_scr {M M1 : MM} (h : JJ M) (k : Scr M M1) : JJ M1 := by
  obtain ⟨⟨c, n, hc⟩, -⟩ := id h
  exact JJ_rest h ⟨c, n, JC_scr hc k⟩ (fun q hq => k.1 q (krs q hq)) k.2
theorem Scr_c {M M1 : MM} (F : ∀ q, q ≠ 38 → q ≠ 39 → q ≠ 40 → M1 q = M q) : Scr M M1 := ⟨fun q hq => F q (ks hq (by decide)) (ks hq (by decide)) (ks hq (by decide)), fun i _ => by rw [F 31 (by decide) (by decide) (by decide)]⟩
theorem Scr_n {M M1 : MM} (F : FrN M M1) : Scr M M1 := ⟨fun q hq => F.1 q (ks hq (by decide)) (ks hq (by decide)) (ks hq (by decide)), F.2⟩
theorem Scr_1 {M M1 : MM} {k : Nat} (hk : k ∉ KS) (hk2 : 31 ≠ k) (F : ∀ q, q ≠ k → M1 q = M q) : Scr M M1 := ⟨fun q hq => F q (ks hq hk), fun i _ => by rw [F 31 hk2]⟩
section Ask
variable {c : Nat → Int32} {n : Nat} {M : MM}
theorem X9_spoiledBit (hy : YX c n M) : f_X9_spoiledBit M = some (@ite _ (∃ x, Feas c n x) (Classical.propDecidable _) 0 1) := by
  unfold f_X9_spoiledBit
  by_cases h : ∃ x, Feas c n x
  · rw [if_pos (hy.2.1 h).1, if_pos h, b_s]
  · rw [hy.2.2 h, if_neg (by decide), if_neg h, b_s]
theorem X9_known (hw : WF c n) (hy : YX c n M) {m : Nat} (hm : m < 2 * n) : f_X9_isKnown M (nI m) = some (@ite _ (∃ x, Feas c n x) (Classical.propDecidable _) 1 0) := by
  have h16 := hw.1
  unfold f_X9_isKnown
  by_cases h : ∃ x, Feas c n x
  · rw [if_pos (hy.2.1 h).1, if_pos h, X9_isMoment hy.1 (by omega) hm, b_s, if_neg (by decide), b_s, rz1]
  · rw [hy.2.2 h, if_neg (by decide), if_neg h, b_s, rz0]
theorem X9_leastOf (hw : WF c n) (hy : YX c n M) {m : Nat} (hm : m < 2 * n) : f_X9_leastOf M (nI m) = some (@ite _ (∃ x, Feas c n x) (Classical.propDecidable _) (M 14 m) (-1)) := by
  have h16 := hw.1
  unfold f_X9_leastOf
  rw [X9_known hw hy hm, b_s]
  by_cases h : ∃ x, Feas c n x
  · rw [if_pos h, if_pos h, if_neg (by decide), ld_ok (by omega), b_s, b_s]
  · rw [if_neg h, if_neg h, if_pos rfl, b_s]
theorem X9_greatestOf (hw : WF c n) (hy : YX c n M) {m : Nat} (hm : m < 2 * n) : f_X9_greatestOf M (nI m) = some (@ite _ (∃ x, Feas c n x) (Classical.propDecidable _) (M 15 m) (-1)) := by
  have h16 := hw.1
  unfold f_X9_greatestOf
  rw [X9_known hw hy hm, b_s]
  by_cases h : ∃ x, Feas c n x
  · rw [if_pos h, if_pos h, if_neg (by decide), ld_ok (by omega), b_s, b_s]
  · rw [if_neg h, if_neg h, if_pos rfl, b_s]
theorem Y_eq {M1 : MM} (hy : YX c n M) (hr : YR c n M1) (hf : ∃ x, Feas c n x) : ∀ m, m < 2 * n → M 14 m = M1 41 (rm m) ∧ M 15 m = M1 42 (rm m) := by
  obtain ⟨-, ⟨y, y1, y2⟩, ⟨z, z1, z2⟩⟩ := hy.2.1 hf
  obtain ⟨⟨u, u1, u2⟩, ⟨v, v1, v2⟩⟩ := hr
  intro m hm
  constructor
  · rw [ti_eq, y2 m hm, u2 m hm]; exact LstF_u y1 u1 m hm
  · rw [ti_eq, z2 m hm, v2 m hm]; exact GrtF_u z1 v1 m hm
theorem R_narrowed (hw : WF c n) (hs : Sw c (M 32) 0) (hy : YX c n M) {p : Nat} (hp : p < n) {x2 : Int32} {k : Nat} (hk : k = 12 ∨ k = 13 ∨ k = 14 ∨ k = 15) (e2 : x2 = nI k) : ∃ M1, f_X11_narrowed M (nI p) x2 = some (@ite _ (∃ x, Feas c n x) (Classical.propDecidable _) (M (14 + k % 2) (2 * p + (k - 12) / 2)) (-1), M1) ∧ FrN M M1 := by
  have h16 := hw.1
  unfold f_X11_narrowed
  obtain ⟨M1, e1, F1, r1⟩ := R_narrows hw hs
  rw [e1, b_s]
  by_cases h : ∃ x, Feas c n x
  · have ye := Y_eq hy (r1 h) h
    rw [if_pos h, if_pos h, if_neg (show ¬ (1 : Int32) = 0 by decide), e2]
    refine ⟨M1, ?_, F1⟩
    have y0 := ye (2 * p) (by omega)
    have y1 := ye (2 * p + 1) (by omega)
    rw [rm_0] at y0
    rw [rm_1] at y1
    rcases hk with rfl | rfl | rfl | rfl
    · rw [if_neg (by decide), b_s, show z_rem (nI 12) (2 : Int32) = some 0 by decide, b_s, if_pos rfl, ld_ok (by omega), b_s, b_s]
      show some (M1 41 p, M1) = some (M 14 (2 * p), M1)
      rw [y0.1]
    · rw [if_neg (by decide), b_s, show z_rem (nI 13) (2 : Int32) = some 1 by decide, b_s, if_neg (by decide), ld_ok (by omega), b_s, b_s]
      show some (M1 42 p, M1) = some (M 15 (2 * p), M1)
      rw [y0.2]
    · rw [if_pos (by decide), b_s, show (16 : Int32) + nI p = nI (16 + p) from nI_add 16 p, show z_rem (nI 14) (2 : Int32) = some 0 by decide, b_s, if_pos rfl, ld_ok (by omega), b_s, b_s]
      show some (M1 41 (16 + p), M1) = some (M 14 (2 * p + 1), M1)
      rw [y1.1]
    · rw [if_pos (by decide), b_s, show (16 : Int32) + nI p = nI (16 + p) from nI_add 16 p, show z_rem (nI 15) (2 : Int32) = some 1 by decide, b_s, if_neg (by decide), ld_ok (by omega), b_s, b_s]
      show some (M1 42 (16 + p), M1) = some (M 15 (2 * p + 1), M1)
      rw [y1.2]
  · rw [if_neg h, if_neg h, if_pos rfl]
    exact ⟨M1, rfl, F1⟩
theorem lenL (hw : WF c n) : ∃ L, L ≤ 10 ∧ c 2 = nI L := by
  obtain ⟨L, a, b, -⟩ := hw.2.2.2.1
  exact ⟨L, a, b⟩
end Ask

theorem op_told_ok : op_told JJ := by
  intro M hJ a0
  obtain ⟨⟨c, n, hw, hc, hs, hx, hy⟩, ⟨s, d, P, hsd, hPW, hPX, hPR⟩, -, -, ⟨bw, bp, ba, e, hb, hb6, hb5, hbx, hbr⟩⟩ := id hJ
  obtain ⟨L, hL, hL2⟩ := lenL hw
  by_cases h0 : a0 = 0
  · refine ⟨(nI n, M), ?_, (nI n, M), ?_, rfl, hJ⟩
    · unfold f_X10_told
      rw [if_pos h0, X7_people hc hw, b_s]
    · show f_X11_told M a0 = _
      unfold f_X11_told
      rw [if_pos h0, R_n hs hw, b_s]
  by_cases h1 : a0 = 1
  · refine ⟨(c 1, M), ?_, (c 1, M), ?_, rfl, hJ⟩
    · unfold f_X10_told
      rw [if_neg h0, if_pos h1, X7_ruleNow hc, b_s]
    · show f_X11_told M a0 = _
      unfold f_X11_told
      rw [if_neg h0, if_pos h1, R_rule hs, b_s]
  by_cases h2 : a0 = 2
  · refine ⟨(c 2, M), ?_, (c 2, M), ?_, rfl, hJ⟩
    · unfold f_X10_told
      rw [if_neg h0, if_neg h1, if_pos h2, X7_signs hc, b_s]
    · show f_X11_told M a0 = _
      unfold f_X11_told
      rw [if_neg h0, if_neg h1, if_pos h2, R_len hs, b_s]
  by_cases h3 : a0 = 3
  · refine ⟨(bs (heirB c n) n, M), ?_, (bs (heirB c n) n, M), ?_, rfl, hJ⟩
    · unfold f_X10_told
      rw [if_neg h0, if_neg h1, if_neg h2, if_pos h3, hx.2.1]
    · show f_X11_told M a0 = _
      unfold f_X11_told
      rw [if_neg h0, if_neg h1, if_neg h2, if_pos h3, R_heirs hs hw, b_s]
  by_cases h4 : a0 = 4
  · obtain ⟨M1, e1, F1⟩ := R_coats hw hs
    refine ⟨(nI (ucn c n n), M), ?_, (nI (ucn c n n), M1), ?_, rfl, JJ_scr hJ (Scr_c F1)⟩
    · unfold f_X10_told
      rw [if_neg h0, if_neg h1, if_neg h2, if_neg h3, if_pos h4, X1_unlike hw hx, b_s]
    · show f_X11_told M a0 = _
      unfold f_X11_told
      rw [if_neg h0, if_neg h1, if_neg h2, if_neg h3, if_pos h4, e1, b_s]
  by_cases h5 : a0 = 5
  · obtain ⟨M1, e1, F1, -⟩ := R_narrows hw hs
    refine ⟨(@ite _ (∃ x, Feas c n x) (Classical.propDecidable _) 0 1, M), ?_, (@ite _ (∃ x, Feas c n x) (Classical.propDecidable _) 0 1, M1), ?_, rfl, JJ_scr hJ (Scr_n F1)⟩
    · unfold f_X10_told
      rw [if_neg h0, if_neg h1, if_neg h2, if_neg h3, if_neg h4, if_pos h5, X9_spoiledBit hy, b_s]
    · show f_X11_told M a0 = _
      unfold f_X11_told
      rw [if_neg h0, if_neg h1, if_neg h2, if_neg h3, if_neg h4, if_pos h5, e1, b_s]
      by_cases h : ∃ x, Feas c n x
      · rw [if_pos h, if_pos h, if_neg (show ¬ (1 : Int32) = 0 by decide), b_s]
      · rw [if_neg h, if_neg h, if_pos rfl, b_s]
  by_cases h6 : a0 = 6
  · obtain ⟨M1, e1, F1⟩ := R_meant_all hw hs hL hL2
    refine ⟨(bs (fun p => allB c L (QQ c n p)) n, M), ?_, (bs (fun p => allB c L (QQ c n p)) n, M1), ?_, rfl, JJ_scr hJ (Scr_c F1)⟩
    · unfold f_X10_told
      rw [if_neg h0, if_neg h1, if_neg h2, if_neg h3, if_neg h4, if_neg h5, if_pos h6, X8_all hc hw hx hL hL2, b_s]
    · show f_X11_told M a0 = _
      unfold f_X11_told
      rw [if_neg h0, if_neg h1, if_neg h2, if_neg h3, if_neg h4, if_neg h5, if_pos h6, e1, b_s]
  by_cases h7 : a0 = 7
  · obtain ⟨M1, e1, F1⟩ := R_meant_some hw hs hL hL2
    refine ⟨(bs (fun p => someB c L (QQ c n p)) n, M), ?_, (bs (fun p => someB c L (QQ c n p)) n, M1), ?_, rfl, JJ_scr hJ (Scr_c F1)⟩
    · unfold f_X10_told
      rw [if_neg h0, if_neg h1, if_neg h2, if_neg h3, if_neg h4, if_neg h5, if_neg h6, if_pos h7, X8_some hc hw hx hL hL2, b_s]
    · show f_X11_told M a0 = _
      unfold f_X11_told
      rw [if_neg h0, if_neg h1, if_neg h2, if_neg h3, if_neg h4, if_neg h5, if_neg h6, if_pos h7, e1, b_s]
  by_cases h8 : a0 = 8
  · obtain ⟨M1, e1, F1⟩ := X8_likely hw hc hx hL hL2
    have S1 := Scr_1 (k := 19) (by decide) (by decide) F1
    obtain ⟨M2, e2, F2⟩ := R_likely (M := M1) hw (by rw [F1 32 (by decide)]; exact hs) hL hL2
    have S2 : Scr M1 M2 := ⟨fun q hq => F2 q (ks hq (by decide)) (ks hq (by decide)) (ks hq (by decide)) (ks hq (by decide)), fun i _ => by rw [F2 31 (by decide) (by decide) (by decide) (by decide)]⟩
    refine ⟨((lst c n L n).1, M1), ?_, ((lst c n L n).1, M2), ?_, rfl, JJ_scr hJ (Scr_t S1 S2)⟩
    · unfold f_X10_told
      rw [if_neg h0, if_neg h1, if_neg h2, if_neg h3, if_neg h4, if_neg h5, if_neg h6, if_neg h7, if_pos h8, e1, b_s]
    · show f_X11_told M1 a0 = _
      unfold f_X11_told
      rw [if_neg h0, if_neg h1, if_neg h2, if_neg h3, if_neg h4, if_neg h5, if_neg h6, if_neg h7, if_pos h8, e2, b_s]
  by_cases h9 : a0 = 9
  · refine ⟨(nI e, M), ?_, (nI e, M), ?_, rfl, hJ⟩
    · unfold f_X10_told
      rw [if_neg h0, if_neg h1, if_neg h2, if_neg h3, if_neg h4, if_neg h5, if_neg h6, if_neg h7, if_neg h8, if_pos h9, hb6]
    · show f_X11_told M a0 = _
      unfold f_X11_told
      rw [if_neg h0, if_neg h1, if_neg h2, if_neg h3, if_neg h4, if_neg h5, if_neg h6, if_neg h7, if_neg h8, if_pos h9, hb5]
  by_cases h10 : a0 = 10
  · obtain ⟨M1, e1, F1⟩ := R_wrong hw hs hb hb5 hbr
    refine ⟨(wrF c n bw bp ba e 0, M), ?_, (wrF c n bw bp ba e 0, M1), ?_, rfl, JJ_scr hJ (Scr_c F1)⟩
    · unfold f_X10_told
      rw [if_neg h0, if_neg h1, if_neg h2, if_neg h3, if_neg h4, if_neg h5, if_neg h6, if_neg h7, if_neg h8, if_neg h9, if_pos h10, X0_wrong hw hx hb hb6 hbx, b_s]
    · show f_X11_told M a0 = _
      unfold f_X11_told
      rw [if_neg h0, if_neg h1, if_neg h2, if_neg h3, if_neg h4, if_neg h5, if_neg h6, if_neg h7, if_neg h8, if_neg h9, if_pos h10, e1, b_s]
  by_cases h11 : a0 = 11
  · refine ⟨(nI d, M), ?_, (nI d, M), ?_, rfl, hJ⟩
    · unfold f_X10_told
      rw [if_neg h0, if_neg h1, if_neg h2, if_neg h3, if_neg h4, if_neg h5, if_neg h6, if_neg h7, if_neg h8, if_neg h9, if_neg h10, if_pos h11, hPX.2.2.1]
    · show f_X11_told M a0 = _
      unfold f_X11_told
      rw [if_neg h0, if_neg h1, if_neg h2, if_neg h3, if_neg h4, if_neg h5, if_neg h6, if_neg h7, if_neg h8, if_neg h9, if_neg h10, if_pos h11, hPR.1]
  refine ⟨(-1000000002, M), ?_, (-1000000002, M), ?_, rfl, hJ⟩
  · unfold f_X10_told
    rw [if_neg h0, if_neg h1, if_neg h2, if_neg h3, if_neg h4, if_neg h5, if_neg h6, if_neg h7, if_neg h8, if_neg h9, if_neg h10, if_neg h11]
  · show f_X11_told M a0 = _
    unfold f_X11_told
    rw [if_neg h0, if_neg h1, if_neg h2, if_neg h3, if_neg h4, if_neg h5, if_neg h6, if_neg h7, if_neg h8, if_neg h9, if_neg h10, if_neg h11]
theorem op_person_ok : op_person JJ := by
  intro M hJ a0 a1
  obtain ⟨⟨c, n, hw, hc, hs, hx, hy⟩, -⟩ := id hJ
  have h16 := hw.1
  obtain ⟨L, hL, hL2⟩ := lenL hw
  by_cases hp : ∃ p, p < n ∧ a0 = nI p
  · obtain ⟨p, hp, rfl⟩ := hp
    obtain ⟨M1, e1, cr, F1⟩ := R_lays hw hs
    have S1 := Scr_c F1
    have hs1 : Sw c (M1 32) 0 := by rw [F1 32 (by decide) (by decide) (by decide)]; exact hs
    have hq := (QQ_ok hw p hp).1
    have X : ∀ r, f_X10_person M (nI p) a1 = r ↔ _ = r := fun r => by
      unfold f_X10_person
      rw [X7_has_in hc hw hp, b_s, if_neg (show ¬ (1 : Int32) = 0 by decide)]
    have R : ∀ r, f_X11_person M (nI p) a1 = r ↔ _ = r := fun r => by
      unfold f_X11_person
      rw [R_isOne_in hs hw hp, b_s, if_neg (show ¬ (1 : Int32) = 0 by decide), e1, b_s]
    by_cases h0 : a1 = 0
    · refine ⟨(c (13 + 8 * p), M), (X _).mpr ?_, (c (13 + 8 * p), M1), (R _).mpr ?_, rfl, JJ_scr hJ S1⟩
      · rw [if_pos h0, X7_f0 hc hw hp, b_s]
      · rw [if_pos h0, R_sex hs1 (by omega), b_s]
    by_cases h1 : a1 = 1
    · refine ⟨(c (13 + 8 * p + 1), M), (X _).mpr ?_, (c (13 + 8 * p + 1), M1), (R _).mpr ?_, rfl, JJ_scr hJ S1⟩
      · rw [if_neg h0, if_pos h1, X7_f1 hc hw hp, b_s]
      · rw [if_neg h0, if_pos h1, R_arms hs1 (by omega), b_s]
    by_cases h2 : a1 = 2
    · refine ⟨(c (13 + 8 * p + 2), M), (X _).mpr ?_, (c (13 + 8 * p + 2), M1), (R _).mpr ?_, rfl, JJ_scr hJ S1⟩
      · rw [if_neg h0, if_neg h1, if_pos h2, X7_f2 hc hw hp, b_s]
      · rw [if_neg h0, if_neg h1, if_pos h2, R_fa hs1 (by omega), b_s]
    by_cases h3 : a1 = 3
    · refine ⟨(c (13 + 8 * p + 3), M), (X _).mpr ?_, (c (13 + 8 * p + 3), M1), (R _).mpr ?_, rfl, JJ_scr hJ S1⟩
      · rw [if_neg h0, if_neg h1, if_neg h2, if_pos h3, X7_f3 hc hw hp, b_s]
      · rw [if_neg h0, if_neg h1, if_neg h2, if_pos h3, R_mo hs1 (by omega), b_s]
    by_cases h4 : a1 = 4
    · refine ⟨(nI (QQ c n p).length, M), (X _).mpr ?_, (nI (QQ c n p).length, M1), (R _).mpr ?_, rfl, JJ_scr hJ S1⟩
      · rw [if_neg h0, if_neg h1, if_neg h2, if_neg h3, if_pos h4, X1_sizeOf (by omega) (hx.2.2 p hp), b_s]
      · rw [if_neg h0, if_neg h1, if_neg h2, if_neg h3, if_pos h4, ld_ok (show p < 17 by omega), (cr p hp).1, b_s]
    by_cases h5 : a1 = 5
    · refine ⟨(bs (sameB c n p) n, M), (X _).mpr ?_, (bs (sameB c n p) n, M1), (R _).mpr ?_, rfl, JJ_scr hJ S1⟩
      · rw [if_neg h0, if_neg h1, if_neg h2, if_neg h3, if_neg h4, if_pos h5, X1_sameAs hw hx hp, b_s]
      · rw [if_neg h0, if_neg h1, if_neg h2, if_neg h3, if_neg h4, if_pos h5, R_same hw hs1 cr hp, b_s]
    by_cases h6 : a1 = 6
    · obtain ⟨Ma, ea, Fa⟩ := X8_like hw hc (show p < 17 by omega) (hx.2.2 p hp) (QOK_len hq) hL hL2
      have Sa := Scr_1 (k := 19) (by decide) (by decide) Fa
      have hsa : Sw c (Ma 32) 0 := by rw [Fa 32 (by decide)]; exact hs
      obtain ⟨Mb, eb, crb, Fb⟩ := R_lays hw hsa
      have hsb : Sw c (Mb 32) 0 := by rw [Fb 32 (by decide) (by decide) (by decide)]; exact hsa
      obtain ⟨Md, ed, Fd⟩ := R_like hw hsb (show p < 17 by omega) (crb p hp) (QOK_len hq) hL hL2
      have Sd := Scr_1 (k := 43) (by decide) (by decide) Fd
      refine ⟨(nI (likeV c L (QQ c n p)), Ma), (X _).mpr ?_, (nI (likeV c L (QQ c n p)), Md), ?_, rfl, JJ_scr hJ (Scr_t Sa (Scr_t (Scr_c Fb) Sd))⟩
      · rw [if_neg h0, if_neg h1, if_neg h2, if_neg h3, if_neg h4, if_neg h5, if_pos h6, ea, b_s]
      · show f_X11_person Ma (nI p) a1 = _
        unfold f_X11_person
        rw [R_isOne_in hsa hw hp, b_s, if_neg (show ¬ (1 : Int32) = 0 by decide), eb, b_s, if_neg h0, if_neg h1, if_neg h2, if_neg h3, if_neg h4, if_neg h5, if_pos h6, ed, b_s]
    by_cases h7 : a1 = 7
    · refine ⟨(bs (fun q => decide (c (13 + 8 * q + 2) = nI p ∨ c (13 + 8 * q + 3) = nI p)) n, M), (X _).mpr ?_, (bs (fun q => decide (c (13 + 8 * q + 2) = nI p ∨ c (13 + 8 * q + 3) = nI p)) n, M1), (R _).mpr ?_, rfl, JJ_scr hJ S1⟩
      · rw [if_neg h0, if_neg h1, if_neg h2, if_neg h3, if_neg h4, if_neg h5, if_neg h6, if_pos h7, X7_childrenOf hc hw, b_s]
      · rw [if_neg h0, if_neg h1, if_neg h2, if_neg h3, if_neg h4, if_neg h5, if_neg h6, if_pos h7, R_children hs1 hw, b_s]
    by_cases h8 : a1 = 8
    · refine ⟨(c (13 + 8 * p + 4), M), (X _).mpr ?_, (c (13 + 8 * p + 4), M1), (R _).mpr ?_, rfl, JJ_scr hJ S1⟩
      · rw [if_neg h0, if_neg h1, if_neg h2, if_neg h3, if_neg h4, if_neg h5, if_neg h6, if_neg h7, if_pos h8, X7_f4 hc hw hp, b_s]
      · rw [if_neg h0, if_neg h1, if_neg h2, if_neg h3, if_neg h4, if_neg h5, if_neg h6, if_neg h7, if_pos h8, R_b0 hs1 (by omega), b_s]
    by_cases h9 : a1 = 9
    · refine ⟨(c (13 + 8 * p + 5), M), (X _).mpr ?_, (c (13 + 8 * p + 5), M1), (R _).mpr ?_, rfl, JJ_scr hJ S1⟩
      · rw [if_neg h0, if_neg h1, if_neg h2, if_neg h3, if_neg h4, if_neg h5, if_neg h6, if_neg h7, if_neg h8, if_pos h9, X7_f5 hc hw hp, b_s]
      · rw [if_neg h0, if_neg h1, if_neg h2, if_neg h3, if_neg h4, if_neg h5, if_neg h6, if_neg h7, if_neg h8, if_pos h9, R_b1 hs1 (by omega), b_s]
    by_cases h10 : a1 = 10
    · refine ⟨(c (13 + 8 * p + 6), M), (X _).mpr ?_, (c (13 + 8 * p + 6), M1), (R _).mpr ?_, rfl, JJ_scr hJ S1⟩
      · rw [if_neg h0, if_neg h1, if_neg h2, if_neg h3, if_neg h4, if_neg h5, if_neg h6, if_neg h7, if_neg h8, if_neg h9, if_pos h10, X7_f6 hc hw hp, b_s]
      · rw [if_neg h0, if_neg h1, if_neg h2, if_neg h3, if_neg h4, if_neg h5, if_neg h6, if_neg h7, if_neg h8, if_neg h9, if_pos h10, R_d0 hs1 (by omega), b_s]
    by_cases h11 : a1 = 11
    · refine ⟨(c (13 + 8 * p + 7), M), (X _).mpr ?_, (c (13 + 8 * p + 7), M1), (R _).mpr ?_, rfl, JJ_scr hJ S1⟩
      · rw [if_neg h0, if_neg h1, if_neg h2, if_neg h3, if_neg h4, if_neg h5, if_neg h6, if_neg h7, if_neg h8, if_neg h9, if_neg h10, if_pos h11, X7_f7 hc hw hp, b_s]
      · rw [if_neg h0, if_neg h1, if_neg h2, if_neg h3, if_neg h4, if_neg h5, if_neg h6, if_neg h7, if_neg h8, if_neg h9, if_neg h10, if_pos h11, R_d1 hs1 (by omega), b_s]
    have hy1 : YX c n M1 := YX_fr hy (S1.1 3 (by decide)) (S1.1 14 (by decide)) (S1.1 15 (by decide))
    by_cases h12 : a1 = 12
    · obtain ⟨M2, e2, F2⟩ := R_narrowed hw hs1 hy1 hp (x2 := a1) (k := 12) (by decide) h12
      have ev : M1 (14 + 12 % 2) (2 * p + (12 - 12) / 2) = M 14 (2 * p) := by
        show M1 14 (2 * p) = _
        rw [S1.1 14 (by decide)]
      rw [ev] at e2
      refine ⟨(@ite _ (∃ x, Feas c n x) (Classical.propDecidable _) (M 14 (2 * p)) (-1), M), (X _).mpr ?_, (@ite _ (∃ x, Feas c n x) (Classical.propDecidable _) (M 14 (2 * p)) (-1), M2), (R _).mpr ?_, rfl, JJ_scr hJ (Scr_t S1 (Scr_n F2))⟩
      · rw [if_neg h0, if_neg h1, if_neg h2, if_neg h3, if_neg h4, if_neg h5, if_neg h6, if_neg h7, if_neg h8, if_neg h9, if_neg h10, if_neg h11, if_pos h12, show f_X9_leastBirth M (nI p) = some (@ite _ (∃ x, Feas c n x) (Classical.propDecidable _) (M 14 (2 * p)) (-1)) from ?_, b_s]
        unfold f_X9_leastBirth
        rw [X9_birth, b_s, X9_leastOf hw hy (by omega), b_s]
      · rw [if_neg h0, if_neg h1, if_neg h2, if_neg h3, if_neg h4, if_neg h5, if_neg h6, if_neg h7, if_neg h8, if_neg h9, if_neg h10, if_neg h11, R_ini (a := 12) (b := 15) _ _ _ _ (by decide) (by decide), b_s, h12, if_pos (show (12 : Int) ≤ (12 : Int32).toInt ∧ (12 : Int32).toInt ≤ 15 by decide), if_neg (show ¬ (1 : Int32) = 0 by decide), ← h12, e2, b_s, b_s]
    by_cases h13 : a1 = 13
    · obtain ⟨M2, e2, F2⟩ := R_narrowed hw hs1 hy1 hp (x2 := a1) (k := 13) (by decide) h13
      have ev : M1 (14 + 13 % 2) (2 * p + (13 - 12) / 2) = M 15 (2 * p) := by
        show M1 15 (2 * p) = _
        rw [S1.1 15 (by decide)]
      rw [ev] at e2
      refine ⟨(@ite _ (∃ x, Feas c n x) (Classical.propDecidable _) (M 15 (2 * p)) (-1), M), (X _).mpr ?_, (@ite _ (∃ x, Feas c n x) (Classical.propDecidable _) (M 15 (2 * p)) (-1), M2), (R _).mpr ?_, rfl, JJ_scr hJ (Scr_t S1 (Scr_n F2))⟩
      · rw [if_neg h0, if_neg h1, if_neg h2, if_neg h3, if_neg h4, if_neg h5, if_neg h6, if_neg h7, if_neg h8, if_neg h9, if_neg h10, if_neg h11, if_neg h12, if_pos h13, show f_X9_greatestBirth M (nI p) = some (@ite _ (∃ x, Feas c n x) (Classical.propDecidable _) (M 15 (2 * p)) (-1)) from ?_, b_s]
        unfold f_X9_greatestBirth
        rw [X9_birth, b_s, X9_greatestOf hw hy (by omega), b_s]
      · rw [if_neg h0, if_neg h1, if_neg h2, if_neg h3, if_neg h4, if_neg h5, if_neg h6, if_neg h7, if_neg h8, if_neg h9, if_neg h10, if_neg h11, R_ini (a := 12) (b := 15) _ _ _ _ (by decide) (by decide), b_s, h13, if_pos (show (12 : Int) ≤ (13 : Int32).toInt ∧ (13 : Int32).toInt ≤ 15 by decide), if_neg (show ¬ (1 : Int32) = 0 by decide), ← h13, e2, b_s, b_s]
    by_cases h14 : a1 = 14
    · obtain ⟨M2, e2, F2⟩ := R_narrowed hw hs1 hy1 hp (x2 := a1) (k := 14) (by decide) h14
      have ev : M1 (14 + 14 % 2) (2 * p + (14 - 12) / 2) = M 14 (2 * p + 1) := by
        show M1 14 (2 * p + 1) = _
        rw [S1.1 14 (by decide)]
      rw [ev] at e2
      refine ⟨(@ite _ (∃ x, Feas c n x) (Classical.propDecidable _) (M 14 (2 * p + 1)) (-1), M), (X _).mpr ?_, (@ite _ (∃ x, Feas c n x) (Classical.propDecidable _) (M 14 (2 * p + 1)) (-1), M2), (R _).mpr ?_, rfl, JJ_scr hJ (Scr_t S1 (Scr_n F2))⟩
      · rw [if_neg h0, if_neg h1, if_neg h2, if_neg h3, if_neg h4, if_neg h5, if_neg h6, if_neg h7, if_neg h8, if_neg h9, if_neg h10, if_neg h11, if_neg h12, if_neg h13, if_pos h14, show f_X9_leastDeath M (nI p) = some (@ite _ (∃ x, Feas c n x) (Classical.propDecidable _) (M 14 (2 * p + 1)) (-1)) from ?_, b_s]
        unfold f_X9_leastDeath
        rw [X9_death, b_s, X9_leastOf hw hy (by omega), b_s]
      · rw [if_neg h0, if_neg h1, if_neg h2, if_neg h3, if_neg h4, if_neg h5, if_neg h6, if_neg h7, if_neg h8, if_neg h9, if_neg h10, if_neg h11, R_ini (a := 12) (b := 15) _ _ _ _ (by decide) (by decide), b_s, h14, if_pos (show (12 : Int) ≤ (14 : Int32).toInt ∧ (14 : Int32).toInt ≤ 15 by decide), if_neg (show ¬ (1 : Int32) = 0 by decide), ← h14, e2, b_s, b_s]
    by_cases h15 : a1 = 15
    · obtain ⟨M2, e2, F2⟩ := R_narrowed hw hs1 hy1 hp (x2 := a1) (k := 15) (by decide) h15
      have ev : M1 (14 + 15 % 2) (2 * p + (15 - 12) / 2) = M 15 (2 * p + 1) := by
        show M1 15 (2 * p + 1) = _
        rw [S1.1 15 (by decide)]
      rw [ev] at e2
      refine ⟨(@ite _ (∃ x, Feas c n x) (Classical.propDecidable _) (M 15 (2 * p + 1)) (-1), M), (X _).mpr ?_, (@ite _ (∃ x, Feas c n x) (Classical.propDecidable _) (M 15 (2 * p + 1)) (-1), M2), (R _).mpr ?_, rfl, JJ_scr hJ (Scr_t S1 (Scr_n F2))⟩
      · rw [if_neg h0, if_neg h1, if_neg h2, if_neg h3, if_neg h4, if_neg h5, if_neg h6, if_neg h7, if_neg h8, if_neg h9, if_neg h10, if_neg h11, if_neg h12, if_neg h13, if_neg h14, if_pos h15, show f_X9_greatestDeath M (nI p) = some (@ite _ (∃ x, Feas c n x) (Classical.propDecidable _) (M 15 (2 * p + 1)) (-1)) from ?_, b_s]
        unfold f_X9_greatestDeath
        rw [X9_death, b_s, X9_greatestOf hw hy (by omega), b_s]
      · rw [if_neg h0, if_neg h1, if_neg h2, if_neg h3, if_neg h4, if_neg h5, if_neg h6, if_neg h7, if_neg h8, if_neg h9, if_neg h10, if_neg h11, R_ini (a := 12) (b := 15) _ _ _ _ (by decide) (by decide), b_s, h15, if_pos (show (12 : Int) ≤ (15 : Int32).toInt ∧ (15 : Int32).toInt ≤ 15 by decide), if_neg (show ¬ (1 : Int32) = 0 by decide), ← h15, e2, b_s, b_s]
    refine ⟨(-1000000002, M), (X _).mpr ?_, (-1000000002, M1), (R _).mpr ?_, rfl, JJ_scr hJ S1⟩
    · rw [if_neg h0, if_neg h1, if_neg h2, if_neg h3, if_neg h4, if_neg h5, if_neg h6, if_neg h7, if_neg h8, if_neg h9, if_neg h10, if_neg h11, if_neg h12, if_neg h13, if_neg h14, if_neg h15]
    · have hno : ¬ ((12 : Int) ≤ a1.toInt ∧ a1.toInt ≤ 15) := fun x => by
        have : a1.toInt = 12 ∨ a1.toInt = 13 ∨ a1.toInt = 14 ∨ a1.toInt = 15 := by omega
        rcases this with y | y | y | y
        · exact h12 (ti_eq.mpr y)
        · exact h13 (ti_eq.mpr y)
        · exact h14 (ti_eq.mpr y)
        · exact h15 (ti_eq.mpr y)
      rw [if_neg h0, if_neg h1, if_neg h2, if_neg h3, if_neg h4, if_neg h5, if_neg h6, if_neg h7, if_neg h8, if_neg h9, if_neg h10, if_neg h11, R_ini (a := 12) (b := 15) _ _ _ _ (by decide) (by decide), b_s, if_neg hno, if_pos rfl, b_s]
  · refine ⟨(-1000000001, M), ?_, (-1000000001, M), ?_, rfl, hJ⟩
    · unfold f_X10_person
      rw [X7_has_out hc hw hp, b_s, if_pos rfl]
    · show f_X11_person M a0 a1 = _
      unfold f_X11_person
      rw [R_isOne_out hs hw hp, b_s, if_pos rfl]
