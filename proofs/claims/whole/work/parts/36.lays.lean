def qM (l : QL) (mq : Option QL) : QL := match mq with
  | none => l
  | some lm => qall l lm
def qF (l : QL) (fq : Option QL) : QL := match fq with
  | none => l
  | some lf => qall l lf
/-- the class's way to the same row -/
def xend (rule : Int32) (l : QL) (fq mq : Option QL) : QL := if rule = 2 then qF (qM l mq) fq else qmid rule (qF l fq) mq
theorem xend_n (rule : Int32) (own : Int32 × Int32) (mq : Option QL) : xend rule (qadd [] own) none mq = qrow rule own none mq := by
  unfold xend qrow qend qbase qF
  by_cases c2 : rule = 2
  · simp only [c2, if_true]
    cases mq with
    | none => rfl
    | some lm => simp only [qM, qmid, show ¬ (2 : Int32) = 1 by decide, if_false]
  · simp only [c2, if_false]
theorem xend_s (rule : Int32) (own e : Int32 × Int32) (t : QL) (mq : Option QL) : xend rule (qadd [] e) (some (e :: t)) mq = qrow rule own (some (e :: t)) mq := by
  have h1 : qall (qadd [] e) (e :: t) = qall [] (e :: t) := by
    rw [qall_cons, qall_cons]
    have h : qadd [] e = [e] := by unfold qadd; simp
    have h2 : qadd [e] e = [e] := by unfold qadd; simp
    rw [h, h2]
  have h2 : qall [] ((e :: t).take 1) = qadd [] e := rfl
  unfold xend qrow qend qbase qF
  by_cases c2 : rule = 2
  · simp only [c2, if_true, h2]
    cases mq with
    | none => rfl
    | some lm => simp only [qM, qmid, show ¬ (2 : Int32) = 1 by decide, if_false]
  · simp only [c2, if_false, h1]
section Compose
variable {c : Nat → Int32} {M : MM} {n p : Nat}
theorem Rc_fr {M M1 : MM} {p : Nat} (F : FrT 11 12 13 M M1 p) (h : Rc c M) : Rc c M1 := fun i hi => by rw [F.1 10 (by decide) (by decide) (by decide)]; exact h i hi
theorem X1_compose_T86 (hw : WF c n) (hp : p < 17) {x3 x4 own : Int32} {fq mq : Option QL} {M1 : MM} {l : QL} (r1 : RowIs 11 12 13 M1 p l) (q1 : QOK l) (fa : isFa 11 12 13 M1 p x3 own fq) (mo : isMo 11 12 13 M1 c n p x4 mq) : ∃ M2, f_X1_compose_T86 M1 (nI p) x3 x4 (c 1) (mflag mq) = some M2 ∧ RowIs 11 12 13 M2 p (xend (c 1) l fq mq) ∧ FrT 11 12 13 M1 M2 p := by
  have h16 := hw.1
  obtain ⟨r, hr, er⟩ := hw.2.2.1
  unfold f_X1_compose_T86
  have s1 : ∃ M2, (if mflag mq = 0 then some M1 else if c 1 = (2 : Int32) then (f_X1_sizeOf M1 x4).bind fun (v104 : Int32) => (f_X1_takeFrom M1 (nI p) x4 v104).bind fun (M107 : MM) => some M107 else some M1) = some M2 ∧ RowIs 11 12 13 M2 p (if c 1 = 2 then qM l mq else l) ∧ QOK (if c 1 = 2 then qM l mq else l) ∧ FrT 11 12 13 M1 M2 p := by
    rcases mo with ⟨rfl, -⟩ | ⟨j, lm, hj, rfl, h3, h4, rfl, h6, h7, h8⟩
    · rw [if_pos (show mflag none = 0 from rfl)]
      have e : (if c 1 = 2 then qM l none else l) = l := by
        by_cases h : c 1 = 2
        · rw [if_pos h]; rfl
        · rw [if_neg h]
      rw [e]
      exact ⟨M1, rfl, r1, q1, FrT_rf⟩
    · rw [if_neg (mflag_s lm)]
      by_cases h : c 1 = 2
      · obtain ⟨M2, e2, r2, F2⟩ := X1_takeFrom hp (show j < 17 by omega) h4 h7 (Nat.le_refl _) r1 h6 q1
        rw [if_pos h, X1_sizeOf (by omega) h6, b_s, e2, b_s, if_pos h]
        rw [List.take_of_length_le (Nat.le_refl _)] at r2
        exact ⟨M2, rfl, r2, QOK_al q1 h7, F2⟩
      · rw [if_neg h, if_neg h]
        exact ⟨M1, rfl, r1, q1, FrT_rf⟩
  obtain ⟨M2, e2, r2, q2, F2⟩ := s1
  rw [e2, b_s]
  unfold f_X1_compose_T110
  have fa2 := isFa_fr F2 fa
  have mo2 := isMo_fr F2 mo
  generalize hla : (if c 1 = 2 then qM l mq else l) = la at r2 q2
  have s2 : ∃ M3, (f_X1_sizeOf M2 x3).bind (fun (v115 : Int32) => f_X1_takeFrom M2 (nI p) x3 v115) = some M3 ∧ RowIs 11 12 13 M3 p (qF la fq) ∧ QOK (qF la fq) ∧ FrT 11 12 13 M2 M3 p := by
    rcases fa2 with ⟨rfl, rfl, h3⟩ | ⟨f, lf, rfl, h2, h3, rfl, h5, h6, h7⟩
    · rw [X1_sizeOf_m, b_s, X1_takeFrom_0]
      exact ⟨M2, rfl, r2, q2, FrT_rf⟩
    · obtain ⟨M3, e3, r3, F3⟩ := X1_takeFrom hp h2 h3 h6 (Nat.le_refl _) r2 h5 q2
      rw [X1_sizeOf h2 h5, b_s, e3]
      rw [List.take_of_length_le (Nat.le_refl _)] at r3
      exact ⟨M3, rfl, r3, QOK_al q2 h6, F3⟩
  obtain ⟨M3, e3, r3, q3, F3⟩ := s2
  have mo3 := isMo_fr F3 mo2
  have F13 := FrT_tr F2 F3
  rcases e_bd e3 with ⟨v115, e4, e5⟩
  rw [e4, b_s, e5, b_s]
  have fin9 : xend (c 1) l fq mq = if c 1 = 2 then qF la fq else qmid (c 1) (qF la fq) mq := by
    unfold xend
    by_cases h : c 1 = 2
    · rw [if_pos h, if_pos h, ← hla, if_pos h]
    · rw [if_neg h, if_neg h, ← hla, if_neg h]
  rw [fin9]
  rcases mo3 with ⟨rfl, -⟩ | ⟨j, lm, hj, rfl, h3, h4, rfl, h6, h7, h8⟩
  · rw [if_pos (show mflag none = 0 from rfl), b_s]
    refine ⟨M3, rfl, ?_, F13⟩
    by_cases h : c 1 = 2
    · rw [if_pos h]; exact r3
    · rw [if_neg h]; exact r3
  · rw [if_neg (mflag_s lm)]
    by_cases h : c 1 = 2
    · rw [if_pos h, b_s, if_pos h]
      exact ⟨M3, rfl, r3, F13⟩
    · rw [if_neg h, if_neg h]
      by_cases h0 : c 1 = 0
      · obtain ⟨M4, e6, r4, F4⟩ := X1_takeFrom hp (show j < 17 by omega) h4 h7 (Nat.le_refl _) r3 h6 q3
        rw [if_pos h0, X1_sizeOf (by omega) h6, b_s, b_s, e6, b_s, b_s]
        rw [List.take_of_length_le (Nat.le_refl _)] at r4
        refine ⟨M4, rfl, ?_, FrT_tr F13 F4⟩
        unfold qmid
        simp only [show ¬ c 1 = 1 by rw [h0]; decide, if_false]
        exact r4
      · have h1 : c 1 = 1 := by
          rw [er]
          have : r = 1 := by
            rcases (show r = 0 ∨ r = 1 ∨ r = 2 by omega) with e | e | e
            · exact absurd (by rw [er, e]; rfl) h0
            · exact e
            · exact absurd (by rw [er, e]; rfl) h
          rw [this]; rfl
        have hlen : 1 ≤ lm.length := by
          cases lm with
          | nil => exact absurd rfl h8
          | cons a b => simp
        obtain ⟨M4, e6, r4, F4⟩ := X1_takeFrom (m := 1) hp (show j < 17 by omega) h4 h7 hlen r3 h6 q3
        rw [if_neg h0, b_s, show f_X1_takeFrom M3 (nI p) (nI j) (1 : Int32) = some M4 from e6, b_s, b_s]
        refine ⟨M4, rfl, ?_, FrT_tr F13 F4⟩
        unfold qmid
        simp only [h1, if_true]
        exact r4
theorem X1_compose (hc : Rc c M) (hw : WF c n) (hh : M 2 4 = bs (heirB c n) n) (hp : p < 17) {x3 x4 own : Int32} {fq mq : Option QL} (hf : isFa 11 12 13 M p x3 own fq) (hm : isMo 11 12 13 M c n p x4 mq) (ho : x3 = -1 → p < n ∧ own = c (13 + 8 * p + 1)) : ∃ M1, f_X1_compose M (nI p) x3 x4 = some M1 ∧ RowIs 11 12 13 M1 p (qrow (c 1) (own, nI p) fq mq) ∧ FrT 11 12 13 M M1 p := by
  have h16 := hw.1
  unfold f_X1_compose
  rw [if_neg (nI_nlt0 (by omega)), if_pos (show nI p < (17 : Int32) from nI_lt (b := 17) hp (by decide)), X7_ruleNow hc, b_s]
  have eh : (if x4 = (-1 : Int32) then some (0 : Int32) else (f_X1_isIn M (M 2 4) x4).bind fun (v29 : Int32) => if v29 = 0 then some (0 : Int32) else some (1 : Int32)) = some (mflag mq) := by
    rcases hm with ⟨rfl, h⟩ | ⟨j, lm, hj, rfl, h3, h4, rfl, -⟩
    · by_cases h1 : x4 = -1
      · rw [if_pos h1]; rfl
      · obtain ⟨j, hj, rfl, h3⟩ := h.resolve_left h1
        have hz : ¬ (decide (j < n) && heirB c n j) = true := by simp [h3]
        rw [if_neg h1, X1_isIn _ (by omega), b_s, hh, zbt_bs _ _ (by omega) _ (by omega), if_neg hz, if_pos rfl]; rfl
    · have hz : (decide (j < n) && heirB c n j) = true := by simp [h3, hj]
      rw [if_neg (nI_ne_m1 (by omega)), X1_isIn _ (by omega), b_s, hh, zbt_bs _ _ (by omega) _ (by omega), if_pos hz, if_neg (by decide)]; rfl
  rw [eh, b_s, sto_ok hp, b_s]
  have F0 : FrT 11 12 13 M (mst M 11 p 0) p := ⟨fun q h1 _ _ => mst_n _ _ _ h1, fun i hi => mst_sn _ _ _ hi, fun i _ => ⟨by rw [mst_n _ _ _ (by decide)], by rw [mst_n _ _ _ (by decide)]⟩⟩
  have r0 : RowIs 11 12 13 (mst M 11 p 0) p [] := ⟨mst_ss _ _ _ _, fun k e h => by simp at h⟩
  have hc0 := Rc_fr F0 hc
  rcases isFa_fr F0 hf with ⟨h1, rfl, h3⟩ | ⟨f, lf, rfl, h2, h3, rfl, h5, h6, h7⟩
  · obtain ⟨hpn, rfl⟩ := ho h1
    obtain ⟨M1, e1, r1, F1⟩ := X1_take (t := nI p) hp r0 QOK_nil h3
    have F01 := FrT_tr F0 F1
    rw [if_pos h1, X7_f1 hc0 hw hpn, b_s, e1, b_s, b_s]
    obtain ⟨M2, e2, r2, F2⟩ := X1_compose_T86 hw hp r1 (QOK_add QOK_nil h3) (isFa_fr F01 hf) (isMo_fr F01 hm)
    rw [xend_n] at r2
    exact ⟨M2, e2, r2, FrT_tr F01 F2⟩
  · obtain ⟨e, t, rfl⟩ : ∃ e t, lf = e :: t := by
      cases lf with
      | nil => exact absurd rfl h7
      | cons e t => exact ⟨e, t, rfl⟩
    have he : (e :: t)[0]? = some e := rfl
    obtain ⟨M1, e1, r1, F1⟩ := X1_take (t := e.2) hp r0 QOK_nil (h6.1 0 e he)
    have F01 := FrT_tr F0 F1
    rw [if_neg (nI_ne_m1 (by omega)), show f_X1_armsAt (mst M 11 p 0) (nI f) (0 : Int32) = some e.1 from X1_armsAt h2 h5 (QOK_len h6) he, b_s, show f_X1_throughAt (mst M 11 p 0) (nI f) (0 : Int32) = some e.2 from X1_throughAt h2 h5 (QOK_len h6) he, b_s, e1, b_s, b_s]
    obtain ⟨M2, e2, r2, F2⟩ := X1_compose_T86 hw hp r1 (QOK_add QOK_nil (h6.1 0 e he)) (isFa_fr F01 hf) (isMo_fr F01 hm)
    rw [show xend (c 1) (qadd [] (e.1, e.2)) (some (e :: t)) mq = _ from xend_s (c 1) (own, nI p) e t mq] at r2
    exact ⟨M2, e2, r2, FrT_tr F01 F2⟩
end Compose
/-! the table of all rows -/
noncomputable def qof (c : Nat → Int32) (n : Nat) (T : Nat → QL) (p : Nat) : QL := qrow (c 1) (c (13 + 8 * p + 1), nI p) (if c (13 + 8 * p + 2) = -1 then none else some (T (c (13 + 8 * p + 2)).toNatClampNeg)) (if c (13 + 8 * p + 3) = -1 then none else if heirB c n (c (13 + 8 * p + 3)).toNatClampNeg = true then some (T (c (13 + 8 * p + 3)).toNatClampNeg) else none)
noncomputable def QT (c : Nat → Int32) (n : Nat) : Nat → Nat → QL
  | 0 => fun _ => []
  | p + 1 => fun j => if j = p then qof c n (QT c n p) p else QT c n p j
noncomputable def QQ (c : Nat → Int32) (n j : Nat) : QL := QT c n (j + 1) j
theorem QT_st (c : Nat → Int32) (n : Nat) : ∀ {p j : Nat}, j < p → QT c n p j = QQ c n j
  | 0, j, h => absurd h (Nat.not_lt_zero j)
  | p + 1, j, h => by
    by_cases e : j = p
    · subst e; rfl
    · show (if j = p then qof c n (QT c n p) p else QT c n p j) = _
      rw [if_neg e]
      exact QT_st c n (by omega)
theorem QQ_eq {c : Nat → Int32} {n p : Nat} (hp : p < 2 ^ 31) (h : WFp c p) : QQ c n p = qof c n (QQ c n) p := by
  show (if p = p then qof c n (QT c n p) p else QT c n p p) = _
  rw [if_pos rfl]
  unfold qof
  congr 1
  · rcases h.2.2.1 with e | ⟨j, hj, e⟩
    · rw [if_pos e, if_pos e]
    · rw [if_neg (by rw [e]; exact nI_ne_m1 (by omega)), if_neg (by rw [e]; exact nI_ne_m1 (by omega)), e, nI_clamp (by omega), QT_st c n hj]
  · rcases h.2.2.2.1 with e | ⟨j, hj, e⟩
    · rw [if_pos e, if_pos e]
    · have hne : ¬ nI j = -1 := nI_ne_m1 (by omega)
      rw [e, if_neg hne, if_neg hne, nI_clamp (by omega), QT_st c n hj]
/-- father and mother of one of the people -/
theorem isFa_p {a b d : Nat} {M : MM} {c : Nat → Int32} {n p : Nat} (hw : WF c n) (hp : p < n) (h : ∀ j, j < p → RowIs a b d M j (QQ c n j) ∧ QOK (QQ c n j) ∧ QQ c n j ≠ []) : isFa a b d M p (c (13 + 8 * p + 2)) (c (13 + 8 * p + 1)) (if c (13 + 8 * p + 2) = -1 then none else some (QQ c n (c (13 + 8 * p + 2)).toNatClampNeg)) := by
  have h16 := hw.1
  have hq := hw.2.2.2.2 p hp
  rcases hq.2.2.1 with e | ⟨j, hj, e⟩
  · exact Or.inl ⟨e, by rw [if_pos e], hq.2.1⟩
  · refine Or.inr ⟨j, QQ c n j, e, by omega, by omega, ?_, (h j hj).1, (h j hj).2.1, (h j hj).2.2⟩
    rw [if_neg (by rw [e]; exact nI_ne_m1 (by omega)), e, nI_clamp (by omega)]
theorem isMo_p {a b d : Nat} {M : MM} {c : Nat → Int32} {n p : Nat} (hw : WF c n) (hp : p < n) (h : ∀ j, j < p → RowIs a b d M j (QQ c n j) ∧ QOK (QQ c n j) ∧ QQ c n j ≠ []) : isMo a b d M c n p (c (13 + 8 * p + 3)) (if c (13 + 8 * p + 3) = -1 then none else if heirB c n (c (13 + 8 * p + 3)).toNatClampNeg = true then some (QQ c n (c (13 + 8 * p + 3)).toNatClampNeg) else none) := by
  have h16 := hw.1
  have hq := hw.2.2.2.2 p hp
  rcases hq.2.2.2.1 with e | ⟨j, hj, e⟩
  · exact Or.inl ⟨by rw [if_pos e], Or.inl e⟩
  · rw [if_neg (by rw [e]; exact nI_ne_m1 (by omega)), e, nI_clamp (by omega)]
    by_cases hh : heirB c n j = true
    · rw [if_pos hh]
      exact Or.inr ⟨j, QQ c n j, by omega, rfl, hh, by omega, rfl, (h j hj).1, (h j hj).2.1, (h j hj).2.2⟩
    · rw [if_neg hh]
      exact Or.inl ⟨rfl, Or.inr ⟨j, by omega, rfl, hh⟩⟩
section Lays
variable {c : Nat → Int32} {n : Nat}
def CoatsR (c : Nat → Int32) (n : Nat) (M : MM) : Prop := ∀ p, p < n → RowIs 38 39 40 M p (QQ c n p)
theorem R_lays_L2 (hw : WF c n) : ∀ (k i m : Nat) (M : MM), i + k = n → k < m → Sw c (M 32) 0 → (∀ j, j < i → RowIs 38 39 40 M j (QQ c n j) ∧ QOK (QQ c n j) ∧ QQ c n j ≠ []) → ∃ M1, f_X11_lays_L2 m M (nI i) = some M1 ∧ (∀ j, j < n → RowIs 38 39 40 M1 j (QQ c n j) ∧ QOK (QQ c n j) ∧ QQ c n j ≠ []) ∧ ∀ q, q ≠ 38 → q ≠ 39 → q ≠ 40 → M1 q = M q := by
  have h16 := hw.1
  intro k
  induction k with
  | zero =>
    intro i m M hi hm hs hr
    obtain ⟨m, rfl⟩ : ∃ m', m = m' + 1 := ⟨m - 1, by omega⟩
    obtain rfl : i = n := by omega
    refine ⟨M, ?_, hr, fun _ _ _ _ => rfl⟩
    rw [f_X11_lays_L2, R_n hs hw, b_s, if_pos (nI_le (by omega) (by omega))]
  | succ k ih =>
    intro i m M hi hm hs hr
    obtain ⟨m, rfl⟩ : ∃ m', m = m' + 1 := ⟨m - 1, by omega⟩
    obtain ⟨M1, e1, r1, q1, n1, F1⟩ := R_laysOne hs hw (show i < 17 by omega) (isFa_p hw (show i < n by omega) hr) (isMo_p hw (show i < n by omega) hr)
    have eq : qrow (c 1) (c (13 + 8 * i + 1), nI i) _ _ = QQ c n i := (QQ_eq (by omega) (hw.2.2.2.2 i (by omega))).symm
    rw [eq] at r1 q1 n1
    rw [f_X11_lays_L2, R_n hs hw, b_s, if_neg (nI_ge (by omega) (by omega)), R_arms hs (by omega), b_s, R_fa hs (by omega), b_s, R_mo hs (by omega), b_s, e1, b_s, nI_1]
    obtain ⟨M2, e2, h2, h3⟩ := ih (i + 1) m M1 (by omega) (by omega) (by rw [F1.1 32 (by decide) (by decide) (by decide)]; exact hs) (fun j hj => by
      rcases Nat.lt_or_ge j i with q | q
      · obtain ⟨a, b, d⟩ := hr j q
        exact ⟨RowIs_fr F1 (by omega) (QOK_len b) a, b, d⟩
      · obtain rfl : j = i := by omega
        exact ⟨r1, q1, n1⟩)
    exact ⟨M2, e2, h2, fun q a b d => (h3 q a b d).trans (F1.1 q a b d)⟩
theorem R_lays {M : MM} (hw : WF c n) (hs : Sw c (M 32) 0) : ∃ M1, f_X11_lays M = some M1 ∧ CoatsR c n M1 ∧ ∀ q, q ≠ 38 → q ≠ 39 → q ≠ 40 → M1 q = M q := by
  have h16 := hw.1
  obtain ⟨M1, e1, h1, h2⟩ := R_lays_L2 hw n 0 FU M (by omega) (by unfold FU; omega) hs (fun j hj => by omega)
  refine ⟨M1, ?_, fun p hp => (h1 p hp).1, h2⟩
  unfold f_X11_lays
  rw [show f_X11_lays_L2 FU M (0 : Int32) = some M1 from e1, b_s]
theorem QQ_ok (hw : WF c n) : ∀ p, p < n → QOK (QQ c n p) ∧ QQ c n p ≠ [] := by
  -- by the reference's own walk over any memory that holds c
  have h16 := hw.1
  obtain ⟨w, hwv⟩ : ∃ w : Nat → Int32, Sw c w 0 := by
    refine ⟨fun k => c ((List.range 141).find? (fun i => rix i == k) |>.getD 0), fun i hi => ?_⟩
    show c _ = c i
    congr 1
    have hf : (List.range 141).find? (fun j => rix j == 141 * 0 + rix i) = some i := by
      cases h : (List.range 141).find? (fun j => rix j == 141 * 0 + rix i) with
      | none =>
        rw [List.find?_eq_none] at h
        exact absurd (by simp) (h i (List.mem_range.mpr hi))
      | some j =>
        have a := List.find?_some h
        have b := List.mem_range.mp (List.mem_of_find?_eq_some h)
        have d : rix j = rix i := by simpa using a
        rw [rix_inj1 j b i hi d]
    rw [hf]
    rfl
  obtain ⟨M1, e1, h1, h2⟩ := R_lays_L2 hw n 0 FU (fun q => if q = 32 then w else fun _ => 0) (by omega) (by unfold FU; omega) (by rw [if_pos rfl]; exact hwv) (fun j hj => by omega)
  exact fun p hp => ⟨(h1 p hp).2.1, (h1 p hp).2.2⟩
def CoatsX (c : Nat → Int32) (n : Nat) (M : MM) : Prop := M 2 3 = nI n ∧ M 2 4 = bs (heirB c n) n ∧ ∀ p, p < n → RowIs 11 12 13 M p (QQ c n p)
theorem X1_reckon_L18 (hw : WF c n) : ∀ (k i m : Nat) (M : MM), i + k = n → k < m → Rc c M → M 2 3 = nI n → M 2 4 = bs (heirB c n) n → (∀ j, j < i → RowIs 11 12 13 M j (QQ c n j)) → ∃ M1, f_X1_reckon_L18 m M (nI i) = some M1 ∧ (∀ j, j < n → RowIs 11 12 13 M1 j (QQ c n j)) ∧ ∀ q, q ≠ 11 → q ≠ 12 → q ≠ 13 → M1 q = M q := by
  have h16 := hw.1
  have ok := QQ_ok hw
  intro k
  induction k with
  | zero =>
    intro i m M hi hm hc h3 h4 hr
    obtain ⟨m, rfl⟩ : ∃ m', m = m' + 1 := ⟨m - 1, by omega⟩
    obtain rfl : i = n := by omega
    refine ⟨M, ?_, hr, fun _ _ _ _ => rfl⟩
    rw [f_X1_reckon_L18, h3, if_pos (nI_le (by omega) (by omega))]
  | succ k ih =>
    intro i m M hi hm hc h3 h4 hr
    obtain ⟨m, rfl⟩ : ∃ m', m = m' + 1 := ⟨m - 1, by omega⟩
    have hr2 : ∀ j, j < i → RowIs 11 12 13 M j (QQ c n j) ∧ QOK (QQ c n j) ∧ QQ c n j ≠ [] := fun j hj => ⟨hr j hj, ok j (by omega)⟩
    obtain ⟨M1, e1, r1, F1⟩ := X1_compose hc hw h4 (show i < 17 by omega) (isFa_p hw (show i < n by omega) hr2) (isMo_p hw (show i < n by omega) hr2) (fun _ => ⟨by omega, rfl⟩)
    have eq : qrow (c 1) (c (13 + 8 * i + 1), nI i) _ _ = QQ c n i := (QQ_eq (by omega) (hw.2.2.2.2 i (by omega))).symm
    rw [eq] at r1
    rw [f_X1_reckon_L18, h3, if_neg (nI_ge (by omega) (by omega)), X7_f2 hc hw (by omega), b_s, X7_f3 hc hw (by omega), b_s, e1, b_s, nI_1]
    obtain ⟨M2, e2, h2, h5⟩ := ih (i + 1) m M1 (by omega) (by omega) (Rc_fr F1 hc) (by rw [F1.1 2 (by decide) (by decide) (by decide)]; exact h3) (by rw [F1.1 2 (by decide) (by decide) (by decide)]; exact h4) (fun j hj => by
      rcases Nat.lt_or_ge j i with q | q
      · exact RowIs_fr F1 (by omega) (QOK_len (ok j (by omega)).1) (hr j q)
      · obtain rfl : j = i := by omega
        exact r1)
    exact ⟨M2, e2, h2, fun q a b d => (h5 q a b d).trans (F1.1 q a b d)⟩
theorem X1_reckon {M : MM} (hw : WF c n) (hc : Rc c M) : ∃ M1, f_X1_reckon M = some M1 ∧ CoatsX c n M1 ∧ ∀ q, q ≠ 2 → q ≠ 11 → q ≠ 12 → q ≠ 13 → M1 q = M q := by
  have h16 := hw.1
  unfold f_X1_reckon
  rw [X7_people hc hw, b_s, show ∀ (M : MM) v, z_stf M 2 3 v = some (mst M 2 3 v) from fun _ _ => rfl, b_s]
  have hc1 : Rc c (mst M 2 3 (nI n)) := fun i hi => by rw [mst_n _ _ _ (by decide)]; exact hc i hi
  rw [X1_heirsOf hc1 hw, b_s, show ∀ (M : MM) v, z_stf M 2 4 v = some (mst M 2 4 v) from fun _ _ => rfl, b_s]
  have hc2 : Rc c (mst (mst M 2 3 (nI n)) 2 4 (bs (heirB c n) n)) := fun i hi => by rw [mst_n _ _ _ (by decide)]; exact hc1 i hi
  obtain ⟨M1, e1, h1, h2⟩ := X1_reckon_L18 hw n 0 FU _ (by omega) (by unfold FU; omega) hc2 (by rw [mst_sn _ _ _ (by decide), mst_ss]) (by rw [mst_ss]) (fun j hj => by omega)
  rw [show f_X1_reckon_L18 FU (mst (mst M 2 3 (nI n)) 2 4 (bs (heirB c n) n)) (0 : Int32) = some M1 from e1, b_s]
  refine ⟨M1, rfl, ⟨?_, ?_, h1⟩, fun q a b d e => ?_⟩
  · rw [h2 2 (by decide) (by decide) (by decide), mst_sn _ _ _ (by decide), mst_ss]
  · rw [h2 2 (by decide) (by decide) (by decide), mst_ss]
  · rw [h2 q b d e, mst_n _ _ _ a, mst_n _ _ _ a]
end Lays
