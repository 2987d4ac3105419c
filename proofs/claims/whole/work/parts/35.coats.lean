/-! coats: what each bears, laid by both sides -/
section Rows2
variable {M : MM} {p f : Nat} {l lf : QL}
theorem X1_sizeOf (hp : p < 17) (r : RowIs 11 12 13 M p l) : f_X1_sizeOf M (nI p) = some (nI l.length) := by
  unfold f_X1_sizeOf
  rw [if_neg (nI_nlt0 (by omega)), if_neg (show ¬ (17 : Int32) ≤ nI p from nI_ge hp (by decide)), ld_ok hp, b_s, r.1, b_s]
theorem X1_sizeOf_m : f_X1_sizeOf M (-1) = some 0 := by
  unfold f_X1_sizeOf
  rw [if_pos (by decide), b_s]
theorem X1_armsAt (hp : p < 17) (r : RowIs 11 12 13 M p l) (hl : l.length ≤ 10) {k : Nat} {e : Int32 × Int32} (hk : l[k]? = some e) : f_X1_armsAt M (nI p) (nI k) = some e.1 := by
  have h1 := getq_lt hk
  unfold f_X1_armsAt
  rw [if_neg (nI_nlt0 (by omega)), X1_sizeOf hp r, b_s, if_neg (nI_ge h1 (by omega)), ix10, ld_ok (by omega), b_s, b_s, (r.2 k e hk).1]
theorem X1_armsAt_out (hp : p < 17) (r : RowIs 11 12 13 M p l) (hl : l.length ≤ 10) {x : Int32} (hx : ¬ ∃ k, k < l.length ∧ x = nI k) : f_X1_armsAt M (nI p) x = some (-1) := by
  unfold f_X1_armsAt
  rcases ix3 x (n := l.length) (by omega) with h | ⟨h, h2⟩ | h
  · rw [if_pos h, b_s]
  · rw [if_neg h, X1_sizeOf hp r, b_s, if_pos h2, b_s]
  · exact absurd h hx
theorem X1_throughAt (hp : p < 17) (r : RowIs 11 12 13 M p l) (hl : l.length ≤ 10) {k : Nat} {e : Int32 × Int32} (hk : l[k]? = some e) : f_X1_throughAt M (nI p) (nI k) = some e.2 := by
  have h1 := getq_lt hk
  unfold f_X1_throughAt
  rw [if_neg (nI_nlt0 (by omega)), X1_sizeOf hp r, b_s, if_neg (nI_ge h1 (by omega)), ix10, ld_ok (by omega), b_s, b_s, (r.2 k e hk).2]
theorem X1_throughAt_out (hp : p < 17) (r : RowIs 11 12 13 M p l) (hl : l.length ≤ 10) {x : Int32} (hx : ¬ ∃ k, k < l.length ∧ x = nI k) : f_X1_throughAt M (nI p) x = some (-1) := by
  unfold f_X1_throughAt
  rcases ix3 x (n := l.length) (by omega) with h | ⟨h, h2⟩ | h
  · rw [if_pos h, b_s]
  · rw [if_neg h, X1_sizeOf hp r, b_s, if_pos h2, b_s]
  · exact absurd h hx
theorem drop_get {l : QL} {k : Nat} {e : Int32 × Int32} (h : l[k]? = some e) : l.drop k = e :: l.drop (k + 1) := by
  have h1 := getq_lt h
  rw [List.drop_eq_getElem_cons h1]
  rw [List.getElem?_eq_getElem h1] at h
  rw [Option.some.inj h]
theorem X1_takeFrom_L3 (hp : p < 17) (hf : f < 17) (hne : f ≠ p) (hqf : QOK lf) {m : Nat} (hm : m ≤ lf.length) : ∀ (j k mm : Nat) (M : MM) (l : QL), k + j = m → j < mm → RowIs 11 12 13 M p l → RowIs 11 12 13 M f lf → QOK l → ∃ M1, f_X1_takeFrom_L3 mm M (nI p) (nI f) (nI m) (nI k) = some M1 ∧ RowIs 11 12 13 M1 p (qall l ((lf.drop k).take j)) ∧ FrT 11 12 13 M M1 p := by
  have hl := QOK_len hqf
  intro j
  induction j with
  | zero =>
    intro k mm M l hk hmm r rf hq
    obtain ⟨mm, rfl⟩ : ∃ m', mm = m' + 1 := ⟨mm - 1, by omega⟩
    refine ⟨M, ?_, r, FrT_rf⟩
    rw [f_X1_takeFrom_L3, if_pos (nI_le (by omega) (by omega))]
  | succ j ih =>
    intro k mm M l hk hmm r rf hq
    obtain ⟨mm, rfl⟩ : ∃ m', mm = m' + 1 := ⟨mm - 1, by omega⟩
    obtain ⟨e, he⟩ := getq (l := lf) (k := k) (by omega)
    obtain ⟨M1, e1, r1, F1⟩ := X1_take (t := e.2) hp r hq (hqf.1 k e he)
    rw [f_X1_takeFrom_L3, if_neg (nI_ge (by omega) (by omega)), X1_armsAt hf rf hl he, b_s, X1_throughAt hf rf hl he, b_s, e1, b_s, nI_1]
    obtain ⟨M2, e2, r2, F2⟩ := ih (k + 1) mm M1 _ (by omega) (by omega) r1 (RowIs_fr F1 hne hl rf) (QOK_add hq (hqf.1 k e he))
    refine ⟨M2, e2, ?_, FrT_tr F1 F2⟩
    rw [drop_get he, List.take_succ_cons, qall_cons]
    exact r2
theorem X1_takeFrom (hp : p < 17) (hf : f < 17) (hne : f ≠ p) (hqf : QOK lf) {m : Nat} (hm : m ≤ lf.length) (r : RowIs 11 12 13 M p l) (rf : RowIs 11 12 13 M f lf) (hq : QOK l) : ∃ M1, f_X1_takeFrom M (nI p) (nI f) (nI m) = some M1 ∧ RowIs 11 12 13 M1 p (qall l (lf.take m)) ∧ FrT 11 12 13 M M1 p := by
  have hl := QOK_len hqf
  obtain ⟨M1, e1, r1, F1⟩ := X1_takeFrom_L3 hp hf hne hqf hm m 0 FU M l (by omega) (by unfold FU; omega) r rf hq
  refine ⟨M1, ?_, r1, F1⟩
  unfold f_X1_takeFrom
  rw [show f_X1_takeFrom_L3 FU M (nI p) (nI f) (nI m) (0 : Int32) = _ from e1, b_s]
theorem X1_takeFrom_0 (x y : Int32) : f_X1_takeFrom M x y 0 = some M := by
  unfold f_X1_takeFrom
  rw [show FU = 99999 + 1 from rfl, f_X1_takeFrom_L3, if_pos (by decide), b_s]
theorem R_takesOf_L3 (hp : p < 17) (hf : f < 17) (hne : f ≠ p) (hqf : QOK lf) {m : Nat} (hm10 : m ≤ 10) : ∀ (j k mm : Nat) (M : MM) (l : QL), k + j = min m lf.length → j < mm → RowIs 38 39 40 M p l → RowIs 38 39 40 M f lf → QOK l → ∃ M1, f_X11_takesOf_L3 mm M (nI p) (nI f) (nI m) (nI k) = some M1 ∧ RowIs 38 39 40 M1 p (qall l ((lf.drop k).take j)) ∧ FrT 38 39 40 M M1 p := by
  have hl := QOK_len hqf
  intro j
  induction j with
  | zero =>
    intro k mm M l hk hmm r rf hq
    obtain ⟨mm, rfl⟩ : ∃ m', mm = m' + 1 := ⟨mm - 1, by omega⟩
    refine ⟨M, ?_, r, FrT_rf⟩
    rw [f_X11_takesOf_L3]
    by_cases c : m ≤ k
    · rw [if_pos (nI_le c (by omega))]
    · rw [if_neg (nI_ge (by omega) (by omega)), ld_ok hf, b_s, rf.1, if_pos (nI_le (by omega) (by omega))]
  | succ j ih =>
    intro k mm M l hk hmm r rf hq
    obtain ⟨mm, rfl⟩ : ∃ m', mm = m' + 1 := ⟨mm - 1, by omega⟩
    obtain ⟨e, he⟩ := getq (l := lf) (k := k) (by omega)
    obtain ⟨M1, e1, r1, F1⟩ := R_takes (t := e.2) hp r hq (hqf.1 k e he)
    rw [f_X11_takesOf_L3, if_neg (nI_ge (by omega) (by omega)), ld_ok hf, b_s, rf.1, if_neg (nI_ge (by omega) (by omega)), ix10r, ld_ok (by omega), b_s, ld_ok (by omega), b_s, (rf.2 k e he).1, (rf.2 k e he).2, e1, b_s, nI_1]
    obtain ⟨M2, e2, r2, F2⟩ := ih (k + 1) mm M1 _ (by omega) (by omega) r1 (RowIs_fr F1 hne hl rf) (QOK_add hq (hqf.1 k e he))
    refine ⟨M2, e2, ?_, FrT_tr F1 F2⟩
    rw [drop_get he, List.take_succ_cons, qall_cons]
    exact r2
theorem take_min (l : QL) (m : Nat) : l.take (min m l.length) = l.take m := by
  rcases Nat.le_total m l.length with h | h
  · rw [Nat.min_eq_left h]
  · rw [Nat.min_eq_right h, List.take_of_length_le (Nat.le_refl _), List.take_of_length_le h]
theorem R_takesOf (hp : p < 17) (hf : f < 17) (hne : f ≠ p) (hqf : QOK lf) {m : Nat} (hm10 : m ≤ 10) (r : RowIs 38 39 40 M p l) (rf : RowIs 38 39 40 M f lf) (hq : QOK l) : ∃ M1, f_X11_takesOf M (nI p) (nI f) (nI m) = some M1 ∧ RowIs 38 39 40 M1 p (qall l (lf.take m)) ∧ FrT 38 39 40 M M1 p := by
  obtain ⟨M1, e1, r1, F1⟩ := R_takesOf_L3 hp hf hne hqf hm10 (min m lf.length) 0 FU M l (by omega) (by unfold FU; omega) r rf hq
  refine ⟨M1, ?_, ?_, F1⟩
  · unfold f_X11_takesOf
    rw [show f_X11_takesOf_L3 FU M (nI p) (nI f) (nI m) (0 : Int32) = _ from e1, b_s]
  · rw [List.drop_zero, take_min] at r1
    exact r1
end Rows2
/-- what one bears, by the rule, the own arms, the father's row, an heir mother's row -/
def qbase (rule : Int32) (own : Int32 × Int32) (fq : Option QL) : QL := match fq with
  | none => qadd [] own
  | some lf => qall [] (if rule = 2 then lf.take 1 else lf)
def qmid (rule : Int32) (l : QL) (mq : Option QL) : QL := match mq with
  | none => l
  | some lm => qall l (if rule = 1 then lm.take 1 else lm)
def qend (rule : Int32) (l : QL) (fq : Option QL) : QL := match fq with
  | none => l
  | some lf => if rule = 2 then qall l lf else l
def qrow (rule : Int32) (own : Int32 × Int32) (fq mq : Option QL) : QL := qend rule (qmid rule (qbase rule own fq) mq) fq
/-- who the father, the mother of a place are, and what rows they have -/
def isFa (a b d : Nat) (M : MM) (p : Nat) (x3 own : Int32) (fq : Option QL) : Prop := (x3 = -1 ∧ fq = none ∧ ∃ a, a < 10 ∧ own = nI a) ∨ ∃ (f : Nat) (lf : QL), x3 = nI f ∧ f < 17 ∧ f ≠ p ∧ fq = some lf ∧ RowIs a b d M f lf ∧ QOK lf ∧ lf ≠ []
def isMo (a b d : Nat) (M : MM) (c : Nat → Int32) (n p : Nat) (x4 : Int32) (mq : Option QL) : Prop := (mq = none ∧ (x4 = -1 ∨ ∃ j, j < n ∧ x4 = nI j ∧ ¬ heirB c n j = true)) ∨ ∃ (j : Nat) (lm : QL), j < n ∧ x4 = nI j ∧ heirB c n j = true ∧ j ≠ p ∧ mq = some lm ∧ RowIs a b d M j lm ∧ QOK lm ∧ lm ≠ []
theorem isFa_fr {a b d : Nat} {M M1 : MM} {p : Nat} {x3 own : Int32} {fq : Option QL} (F : FrT a b d M M1 p) (h : isFa a b d M p x3 own fq) : isFa a b d M1 p x3 own fq := by
  rcases h with h | ⟨f, lf, h1, h2, h3, h4, h5, h6, h7⟩
  · exact Or.inl h
  · exact Or.inr ⟨f, lf, h1, h2, h3, h4, RowIs_fr F h3 (QOK_len h6) h5, h6, h7⟩
theorem isMo_fr {a b d : Nat} {M M1 : MM} {c : Nat → Int32} {n p : Nat} {x4 : Int32} {mq : Option QL} (F : FrT a b d M M1 p) (h : isMo a b d M c n p x4 mq) : isMo a b d M1 c n p x4 mq := by
  rcases h with h | ⟨j, lm, h1, h2, h3, h4, h5, h6, h7⟩
  · exact Or.inl h
  · exact Or.inr ⟨j, lm, h1, h2, h3, h4, h5, RowIs_fr F h4 (QOK_len h7.1) h6, h7⟩
theorem QOK_tk {l lf : QL} (h : QOK l) (hf : QOK lf) (m : Nat) : QOK (qall l (lf.take m)) := QOK_all h (fun e he => QOK_mem hf e (List.mem_of_mem_take he))
theorem QOK_al {l lf : QL} (h : QOK l) (hf : QOK lf) : QOK (qall l lf) := QOK_all h (QOK_mem hf)
theorem tk_all {l : QL} (h : QOK l) : l.take 10 = l := List.take_of_length_le (QOK_len h)
def mflag (mq : Option QL) : Int32 := match mq with
  | none => 0
  | some _ => 1
theorem mflag_s (l : QL) : ¬ mflag (some l) = 0 := (by decide : ¬ (1 : Int32) = 0)
section Lays1
variable {c : Nat → Int32} {M : MM} {n p : Nat}
theorem fr32 {a b d : Nat} {M M1 : MM} {p : Nat} (F : FrT a b d M M1 p) {q : Nat} (h1 : q ≠ a) (h2 : q ≠ b) (h3 : q ≠ d) : M1 q = M q := F.1 q h1 h2 h3
theorem R_laysOne (hs : Sw c (M 32) 0) (hw : WF c n) (hp : p < 17) {x2 x3 x4 : Int32} {fq mq : Option QL} (hf : isFa 38 39 40 M p x3 x2 fq) (hm : isMo 38 39 40 M c n p x4 mq) : ∃ M1, f_X11_laysOne M (nI p) x2 x3 x4 = some M1 ∧ RowIs 38 39 40 M1 p (qrow (c 1) (x2, nI p) fq mq) ∧ QOK (qrow (c 1) (x2, nI p) fq mq) ∧ qrow (c 1) (x2, nI p) fq mq ≠ [] ∧ FrT 38 39 40 M M1 p := by
  have h16 := hw.1
  unfold f_X11_laysOne
  have eh : (if x4 = (-1 : Int32) then some (0 : Int32) else (f_X11_isHeir M x4).bind fun (v9 : Int32) => if v9 = 0 then some (0 : Int32) else some (1 : Int32)) = some (mflag mq) := by
    rcases hm with ⟨rfl, h⟩ | ⟨j, lm, hj, rfl, h3, h4, rfl, -⟩
    · by_cases h1 : x4 = -1
      · rw [if_pos h1]; rfl
      · obtain ⟨j, hj, rfl, h3⟩ := h.resolve_left h1
        rw [if_neg h1, R_isHeir hs hw hj, b_s, if_neg h3, if_pos rfl]; rfl
    · rw [if_neg (nI_ne_m1 (by omega)), R_isHeir hs hw hj, b_s, if_pos h3, if_neg (by decide)]; rfl
  rw [eh, b_s, sto_ok hp, b_s]
  -- the empty row
  have F0 : FrT 38 39 40 M (mst M 38 p 0) p := ⟨fun q h1 _ _ => mst_n _ _ _ h1, fun i hi => mst_sn _ _ _ hi, fun i _ => ⟨by rw [mst_n _ _ _ (by decide)], by rw [mst_n _ _ _ (by decide)]⟩⟩
  have r0 : RowIs 38 39 40 (mst M 38 p 0) p [] := ⟨mst_ss _ _ _ _, fun k e h => by simp at h⟩
  -- the father's
  have s1 : ∃ M1, (if x3 = (-1 : Int32) then (f_X11_takes (mst M 38 p 0) (nI p) x2 (nI p)).bind fun (M38 : MM) => some M38 else (z_ld (mst M 38 p 0) 32 3243 (1 : Int32)).bind fun (v52 : Int32) => (if v52 = (2 : Int32) then some (1 : Int32) else some (10 : Int32)).bind fun (j54 : Int32) => (f_X11_takesOf (mst M 38 p 0) (nI p) x3 j54).bind fun (M63 : MM) => some M63) = some M1 ∧ RowIs 38 39 40 M1 p (qbase (c 1) (x2, nI p) fq) ∧ QOK (qbase (c 1) (x2, nI p) fq) ∧ qbase (c 1) (x2, nI p) fq ≠ [] ∧ FrT 38 39 40 M M1 p := by
    rcases isFa_fr F0 hf with ⟨h1, rfl, h3⟩ | ⟨f, lf, rfl, h2, h3, rfl, h5, h6, h7⟩
    · obtain ⟨M1, e1, r1, F1⟩ := R_takes (t := nI p) hp r0 QOK_nil h3
      rw [if_pos h1, e1, b_s]
      exact ⟨M1, rfl, r1, QOK_add QOK_nil h3, qadd_ne, FrT_tr F0 F1⟩
    · rw [if_neg (nI_ne_m1 (by omega)), R_rule (M := mst M 38 p 0) (by rw [mst_n _ _ _ (by decide)]; exact hs), b_s]
      obtain ⟨e, t, rfl⟩ : ∃ e t, lf = e :: t := by
        cases lf with
        | nil => exact absurd rfl h7
        | cons e t => exact ⟨e, t, rfl⟩
      by_cases h2' : c 1 = 2
      · obtain ⟨M1, e1, r1, F1⟩ := R_takesOf (m := 1) hp h2 h3 h6 (by decide) r0 h5 QOK_nil
        rw [if_pos h2', b_s, show f_X11_takesOf (mst M 38 p 0) (nI p) (nI f) (1 : Int32) = some M1 from e1, b_s]
        have eb : qbase (c 1) (x2, nI p) (some (e :: t)) = qall [] ((e :: t).take 1) := by unfold qbase; simp only [h2', if_true]
        rw [eb]
        exact ⟨M1, rfl, r1, QOK_tk QOK_nil h6 1, qadd_ne (l := []) (e := e), FrT_tr F0 F1⟩
      · obtain ⟨M1, e1, r1, F1⟩ := R_takesOf (m := 10) hp h2 h3 h6 (by decide) r0 h5 QOK_nil
        rw [if_neg h2', b_s, show f_X11_takesOf (mst M 38 p 0) (nI p) (nI f) (10 : Int32) = some M1 from e1, b_s]
        have eb : qbase (c 1) (x2, nI p) (some (e :: t)) = qall [] (e :: t) := by unfold qbase; simp only [h2', if_false]
        rw [tk_all h6] at r1
        rw [eb]
        exact ⟨M1, rfl, r1, QOK_al QOK_nil h6, qall_ne (src := t) qadd_ne, FrT_tr F0 F1⟩
  obtain ⟨M1, e1, r1, q1, n1, F1⟩ := s1
  rw [e1, b_s]
  unfold f_X11_laysOne_T66
  have hs1 : Sw c (M1 32) 0 := by rw [F1.1 32 (by decide) (by decide) (by decide)]; exact hs
  -- the mother's
  have s2 : ∃ M2, (if mflag mq = 0 then some M1 else (z_ld M1 32 3243 (1 : Int32)).bind fun (v80 : Int32) => (if v80 = (1 : Int32) then some (1 : Int32) else some (10 : Int32)).bind fun (j82 : Int32) => (f_X11_takesOf M1 (nI p) x4 j82).bind fun (M91 : MM) => some M91) = some M2 ∧ RowIs 38 39 40 M2 p (qmid (c 1) (qbase (c 1) (x2, nI p) fq) mq) ∧ QOK (qmid (c 1) (qbase (c 1) (x2, nI p) fq) mq) ∧ qmid (c 1) (qbase (c 1) (x2, nI p) fq) mq ≠ [] ∧ FrT 38 39 40 M M2 p := by
    rcases isMo_fr F1 hm with ⟨rfl, -⟩ | ⟨j, lm, hj, rfl, h3, h4, rfl, h6, h7, h8⟩
    · rw [if_pos (show mflag none = 0 from rfl)]
      exact ⟨M1, rfl, r1, q1, n1, F1⟩
    · rw [if_neg (mflag_s lm), R_rule hs1, b_s]
      by_cases h1' : c 1 = 1
      · obtain ⟨M2, e2, r2, F2⟩ := R_takesOf (m := 1) hp (by omega) h4 h7 (by decide) r1 h6 q1
        rw [if_pos h1', b_s, show f_X11_takesOf M1 (nI p) (nI j) (1 : Int32) = some M2 from e2, b_s]
        have eb : ∀ l, qmid (c 1) l (some lm) = qall l (lm.take 1) := by intro l; unfold qmid; simp only [h1', if_true]
        rw [eb]
        exact ⟨M2, rfl, r2, QOK_tk q1 h7 1, qall_ne n1, FrT_tr F1 F2⟩
      · obtain ⟨M2, e2, r2, F2⟩ := R_takesOf (m := 10) hp (by omega) h4 h7 (by decide) r1 h6 q1
        rw [if_neg h1', b_s, show f_X11_takesOf M1 (nI p) (nI j) (10 : Int32) = some M2 from e2, b_s]
        have eb : ∀ l, qmid (c 1) l (some lm) = qall l lm := by intro l; unfold qmid; simp only [h1', if_false]
        rw [tk_all h7] at r2
        rw [eb]
        exact ⟨M2, rfl, r2, QOK_al q1 h7, qall_ne n1, FrT_tr F1 F2⟩
  obtain ⟨M2, e2, r2, q2, n2, F2⟩ := s2
  rw [e2, b_s]
  unfold f_X11_laysOne_T94
  have hs2 : Sw c (M2 32) 0 := by rw [F2.1 32 (by decide) (by decide) (by decide)]; exact hs
  rw [R_rule hs2, b_s]
  unfold qrow
  by_cases h2' : c 1 = 2
  · rw [if_pos h2']
    rcases isFa_fr F2 hf with ⟨h1, rfl, h3⟩ | ⟨f, lf, rfl, h2, h3, rfl, h5, h6, h7⟩
    · rw [if_pos h1, b_s]
      exact ⟨M2, rfl, r2, q2, n2, F2⟩
    · obtain ⟨M3, e3, r3, F3⟩ := R_takesOf (m := 10) hp h2 h3 h6 (by decide) r2 h5 q2
      rw [if_neg (nI_ne_m1 (by omega)), show f_X11_takesOf M2 (nI p) (nI f) (10 : Int32) = some M3 from e3, b_s, b_s]
      have eb : ∀ l, qend (c 1) l (some lf) = qall l lf := by intro l; unfold qend; simp only [h2', if_true]
      rw [tk_all h6] at r3
      rw [eb]
      exact ⟨M3, rfl, r3, QOK_al q2 h6, qall_ne n2, FrT_tr F2 F3⟩
  · rw [if_neg h2', b_s]
    have eb : ∀ l, qend (c 1) l fq = l := by
      intro l
      unfold qend
      cases fq with
      | none => rfl
      | some lf => simp only [h2', if_false]
    rw [eb]
    exact ⟨M2, rfl, r2, q2, n2, F2⟩
end Lays1
