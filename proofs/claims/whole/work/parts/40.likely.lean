/-! the likeliest -/
noncomputable def lst (c : Nat → Int32) (n L : Nat) : Nat → Int32 × Nat
  | 0 => (-1, 0)
  | p + 1 => if (lst c n L p).2 < likeV c L (QQ c n p) ∨ (likeV c L (QQ c n p) = (lst c n L p).2 ∧ (lst c n L p).1 ≠ -1 ∧ (QQ c n p).length < (QQ c n (lst c n L p).1.toNatClampNeg).length) then (nI p, likeV c L (QQ c n p)) else lst c n L p
theorem lst_ok (c : Nat → Int32) (n L : Nat) : ∀ p, (lst c n L p).1 = -1 ∨ ∃ j, j < p ∧ (lst c n L p).1 = nI j
  | 0 => Or.inl rfl
  | p + 1 => by
    rw [lst]
    split
    · exact Or.inr ⟨p, by omega, rfl⟩
    · rcases lst_ok c n L p with h | ⟨j, hj, h⟩
      · exact Or.inl h
      · exact Or.inr ⟨j, by omega, h⟩
theorem likeV_le (c : Nat → Int32) (L : Nat) {l : QL} (hl : l.length ≤ 10) : likeV c L l ≤ 10 := Nat.le_trans (stepy_le (lk_stepy c l L) l.length) hl
theorem lst_le (c : Nat → Int32) (L : Nat) {n : Nat} (hw : WF c n) : ∀ p, p ≤ n → (lst c n L p).2 ≤ 10
  | 0, _ => Nat.zero_le _
  | p + 1, h => by
    rw [lst]
    split
    · exact likeV_le c L (QOK_len (QQ_ok hw p (by omega)).1)
    · exact lst_le c L hw p (by omega)
section Likely
variable {c : Nat → Int32} {n L : Nat}
theorem X8_likely_L8 (hw : WF c n) (hL : L ≤ 10) (h2 : c 2 = nI L) : ∀ (k i m : Nat) (M : MM), i + k = n → k < m → Rc c M → CoatsX c n M → ∃ M1, f_X8_likely_L8 m M (lst c n L i).1 (nI (lst c n L i).2) (nI i) = some (M1, (lst c n L n).1) ∧ ∀ q, q ≠ 19 → M1 q = M q := by
  have h16 := hw.1
  intro k
  induction k with
  | zero =>
    intro i m M hi hm hc hx
    obtain ⟨m, rfl⟩ : ∃ m', m = m' + 1 := ⟨m - 1, by omega⟩
    obtain rfl : i = n := by omega
    refine ⟨M, ?_, fun _ _ => rfl⟩
    rw [f_X8_likely_L8, X7_people hc hw, b_s, if_pos (nI_le (by omega) (by omega))]
  | succ k ih =>
    intro i m M hi hm hc hx
    obtain ⟨m, rfl⟩ : ∃ m', m = m' + 1 := ⟨m - 1, by omega⟩
    have hl := QOK_len (QQ_ok hw i (by omega)).1
    have hv := likeV_le c L hl
    have hb := lst_le c L hw i (by omega)
    obtain ⟨M1, e1, g1⟩ := X8_like hw hc (show i < 17 by omega) (hx.2.2 i (by omega)) hl hL h2
    have hc1 : Rc c M1 := fun i hi => by rw [g1 10 (by decide)]; exact hc i hi
    have rows : ∀ p, p < n → RowIs 11 12 13 M1 p (QQ c n p) := fun p hp => RowIs_q (g1 11 (by decide)) (g1 12 (by decide)) (g1 13 (by decide)) (hx.2.2 p hp)
    have hx1 : CoatsX c n M1 := ⟨by rw [g1 2 (by decide)]; exact hx.1, by rw [g1 2 (by decide)]; exact hx.2.1, rows⟩
    obtain ⟨M2, e2, g2⟩ := ih (i + 1) m M1 (by omega) (by omega) hc1 hx1
    refine ⟨M2, ?_, fun q hq => (g2 q hq).trans (g1 q hq)⟩
    rw [f_X8_likely_L8, X7_people hc hw, b_s, if_neg (nI_ge (by omega) (by omega)), e1, b_s]
    have ej : (if (lst c n L i).1 = (-1 : Int32) then some (0 : Int32) else if nI (likeV c L (QQ c n i)) = nI (lst c n L i).2 then (f_X1_sizeOf M1 (nI i)).bind fun v42 => (f_X1_sizeOf M1 (lst c n L i).1).bind fun v47 => if v47 ≤ v42 then some (0 : Int32) else some (1 : Int32) else some (0 : Int32)) = some (if (likeV c L (QQ c n i) = (lst c n L i).2 ∧ (lst c n L i).1 ≠ -1 ∧ (QQ c n i).length < (QQ c n (lst c n L i).1.toNatClampNeg).length) then 1 else 0) := by
      by_cases h1 : (lst c n L i).1 = -1
      · rw [if_pos h1, if_neg (fun x => x.2.1 h1)]
      · rw [if_neg h1]
        by_cases h3 : likeV c L (QQ c n i) = (lst c n L i).2
        · obtain ⟨j, hj, ej⟩ := (lst_ok c n L i).resolve_left h1
          have hlj := QOK_len (QQ_ok hw j (by omega)).1
          rw [if_pos (by rw [h3]), X1_sizeOf (by omega) (rows i (by omega)), b_s, ej, X1_sizeOf (by omega) (rows j (by omega)), b_s, nI_clamp (by omega)]
          by_cases h4 : (QQ c n i).length < (QQ c n j).length
          · rw [if_neg (nI_ge h4 (by omega)), if_pos ⟨h3, nI_ne_m1 (by omega), h4⟩]
          · rw [if_pos (nI_le (by omega) (by omega)), if_neg (fun x => h4 x.2.2)]
        · rw [if_neg (fun x => h3 (nI_inj (by omega) (by omega) x)), if_neg (fun x => h3 x.1)]
    rw [ej, b_s, nI_1]
    by_cases h5 : (lst c n L i).2 < likeV c L (QQ c n i)
    · rw [if_pos (nI_lt h5 (by omega)), b_s]
      rw [lst, if_pos (Or.inl h5)] at e2
      exact e2
    · rw [if_neg (nI_nlt (by omega) (by omega))]
      by_cases h6 : likeV c L (QQ c n i) = (lst c n L i).2 ∧ (lst c n L i).1 ≠ -1 ∧ (QQ c n i).length < (QQ c n (lst c n L i).1.toNatClampNeg).length
      · rw [if_pos h6, if_neg (by decide), b_s]
        rw [lst, if_pos (Or.inr h6)] at e2
        exact e2
      · rw [if_neg h6, if_pos rfl, b_s]
        rw [lst, if_neg (fun x => x.elim h5 h6)] at e2
        exact e2
theorem X8_likely {M : MM} (hw : WF c n) (hc : Rc c M) (hx : CoatsX c n M) (hL : L ≤ 10) (h2 : c 2 = nI L) : ∃ M1, f_X8_likely M = some ((lst c n L n).1, M1) ∧ ∀ q, q ≠ 19 → M1 q = M q := by
  have h16 := hw.1
  obtain ⟨M1, e1, g1⟩ := X8_likely_L8 hw hL h2 n 0 FU M (by omega) (by unfold FU; omega) hc hx
  refine ⟨M1, ?_, g1⟩
  unfold f_X8_likely
  rw [show f_X8_likely_L8 FU M (-1 : Int32) (0 : Int32) (0 : Int32) = some _ from e1, b_s]
theorem R_likely_L10 (hw : WF c n) (hL : L ≤ 10) (h2 : c 2 = nI L) : ∀ (k i m : Nat) (M : MM), i + k = n → k < m → Sw c (M 32) 0 → CoatsR c n M → ∃ M1, f_X11_likely_L10 m M (lst c n L i).1 (nI (lst c n L i).2) (nI i) = some (M1, (lst c n L n).1) ∧ ∀ q, q ≠ 43 → M1 q = M q := by
  have h16 := hw.1
  intro k
  induction k with
  | zero =>
    intro i m M hi hm hc hx
    obtain ⟨m, rfl⟩ : ∃ m', m = m' + 1 := ⟨m - 1, by omega⟩
    obtain rfl : i = n := by omega
    refine ⟨M, ?_, fun _ _ => rfl⟩
    rw [f_X11_likely_L10, R_n hc hw, b_s, if_pos (nI_le (by omega) (by omega))]
  | succ k ih =>
    intro i m M hi hm hc hx
    obtain ⟨m, rfl⟩ : ∃ m', m = m' + 1 := ⟨m - 1, by omega⟩
    have hl := QOK_len (QQ_ok hw i (by omega)).1
    have hv := likeV_le c L hl
    have hb := lst_le c L hw i (by omega)
    obtain ⟨M1, e1, g1⟩ := R_like hw hc (show i < 17 by omega) (hx i (by omega)) hl hL h2
    have hc1 : Sw c (M1 32) 0 := by rw [g1 32 (by decide)]; exact hc
    have rows : CoatsR c n M1 := fun p hp => RowIs_q (g1 38 (by decide)) (g1 39 (by decide)) (g1 40 (by decide)) (hx p hp)
    obtain ⟨M2, e2, g2⟩ := ih (i + 1) m M1 (by omega) (by omega) hc1 rows
    refine ⟨M2, ?_, fun q hq => (g2 q hq).trans (g1 q hq)⟩
    rw [f_X11_likely_L10, R_n hc hw, b_s, if_neg (nI_ge (by omega) (by omega)), e1, b_s]
    dsimp only
    have fin : ∀ s : Int32 × Nat, s = lst c n L (i + 1) → (some (s.1, nI s.2)).bind (fun (j30 : Int32 × Int32) => f_X11_likely_L10 m M1 j30.1 j30.2 (nI i + (1 : Int32))) = some (M2, (lst c n L n).1) := by
      intro s hs
      rw [b_s, nI_1, hs]
      exact e2
    by_cases h5 : (lst c n L i).2 < likeV c L (QQ c n i)
    · rw [if_pos (nI_lt h5 (by omega))]
      exact fin (nI i, likeV c L (QQ c n i)) (by rw [lst, if_pos (Or.inl h5)])
    · rw [if_neg (nI_nlt (by omega) (by omega))]
      by_cases h3 : likeV c L (QQ c n i) = (lst c n L i).2
      · rw [if_pos (by rw [h3])]
        by_cases h1 : (lst c n L i).1 = -1
        · rw [if_pos h1]
          exact fin (lst c n L i) (by rw [lst, if_neg (fun x => x.elim h5 (fun y => y.2.1 h1))])
        · obtain ⟨j, hj, ej⟩ := (lst_ok c n L i).resolve_left h1
          have hlj := QOK_len (QQ_ok hw j (by omega)).1
          rw [if_neg h1, ld_ok (by omega), b_s, (rows i (by omega)).1, ej, ld_ok (by omega), b_s, (rows j (by omega)).1]
          by_cases h4 : (QQ c n i).length < (QQ c n j).length
          · rw [if_neg (nI_ge h4 (by omega))]
            exact fin (nI i, likeV c L (QQ c n i)) (by rw [lst, if_pos (Or.inr ⟨h3, h1, by rw [ej, nI_clamp (by omega)]; exact h4⟩)])
          · rw [if_pos (nI_le (by omega) (by omega)), ← ej]
            exact fin (lst c n L i) (by rw [lst, if_neg (fun x => x.elim h5 (fun y => h4 (by have := y.2.2; rw [ej, nI_clamp (by omega)] at this; exact this)))])
      · rw [if_neg (fun x => h3 (nI_inj (by omega) (by omega) x))]
        exact fin (lst c n L i) (by rw [lst, if_neg (fun x => x.elim h5 (fun y => h3 y.1))])
theorem R_likely {M : MM} (hw : WF c n) (hs : Sw c (M 32) 0) (hL : L ≤ 10) (h2 : c 2 = nI L) : ∃ M1, f_X11_likely M = some ((lst c n L n).1, M1) ∧ ∀ q, q ≠ 38 → q ≠ 39 → q ≠ 40 → q ≠ 43 → M1 q = M q := by
  have h16 := hw.1
  obtain ⟨M0, e0, h0, h3⟩ := R_lays hw hs
  obtain ⟨M1, e1, g1⟩ := R_likely_L10 hw hL h2 n 0 FU M0 (by omega) (by unfold FU; omega) (by rw [h3 32 (by decide) (by decide) (by decide)]; exact hs) h0
  refine ⟨M1, ?_, fun q a b d e => (g1 q e).trans (h3 q a b d)⟩
  unfold f_X11_likely
  rw [e0, b_s, show f_X11_likely_L10 FU M0 (-1 : Int32) (0 : Int32) (0 : Int32) = some _ from e1, b_s]
end Likely
/-! the book -/
/-- entry i of the book is otherwise now -/
def badE (c : Nat → Int32) (n : Nat) (bw bp ba : Nat → Int32) (i : Nat) : Prop := ¬ ∃ (p k : Nat) (e : Int32 × Int32), p < n ∧ bw i = nI p ∧ bp i = nI k ∧ (QQ c n p)[k]? = some e ∧ e.1 = ba i
noncomputable def wrF (c : Nat → Int32) (n : Nat) (bw bp ba : Nat → Int32) : Nat → Nat → Int32
  | 0, _ => -1
  | j + 1, i => @ite _ (badE c n bw bp ba i) (Classical.propDecidable _) (nI i) (wrF c n bw bp ba j (i + 1))
def BKok (bw bp ba : Nat → Int32) (e : Nat) : Prop := e ≤ 20 ∧ ∀ i, i < e → (∃ p, p < 16 ∧ bw i = nI p) ∧ (∃ k, k < 10 ∧ bp i = nI k) ∧ ∃ a, a < 10 ∧ ba i = nI a
section Book
variable {c : Nat → Int32} {n : Nat} {bw bp ba : Nat → Int32} {e : Nat} {M : MM}
theorem X0_wrong_L2 (hw : WF c n) (hx : CoatsX c n M) (hb : BKok bw bp ba e) (h3 : M 6 3 = nI e) (h22 : ∀ i, i < e → M 22 i = bw i ∧ M 23 i = bp i ∧ M 24 i = ba i) : ∀ (j i m : Nat), i + j = e → j < m → f_X0_firstWrong_L2 m M (nI i) = some (wrF c n bw bp ba j i) := by
  have h16 := hw.1
  have h20 := hb.1
  intro j
  induction j with
  | zero =>
    intro i m hi hm
    obtain ⟨m, rfl⟩ : ∃ m', m = m' + 1 := ⟨m - 1, by omega⟩
    rw [f_X0_firstWrong_L2, h3, if_pos (nI_le (by omega) (by omega))]
    rfl
  | succ j ih =>
    intro i m hi hm
    obtain ⟨m, rfl⟩ : ∃ m', m = m' + 1 := ⟨m - 1, by omega⟩
    obtain ⟨⟨p, hp, ep⟩, ⟨k, hk, ek⟩, ⟨a, ha, ea⟩⟩ := hb.2 i (by omega)
    obtain ⟨g1, g2, g3⟩ := h22 i (by omega)
    rw [f_X0_firstWrong_L2, h3, if_neg (nI_ge (by omega) (by omega)), if_neg (show ¬ (20 : Int32) ≤ nI i from nI_ge (b := 20) (by omega) (by decide)), ld_ok (by omega), b_s, g1, ep, hx.1, wrF]
    by_cases hpn : p < n
    · rw [if_pos (nI_lt hpn (by omega)), b_s, if_pos rfl, b_s, ld_ok (by omega), b_s, g2, ek, ld_ok (by omega), nI_1]
      have hl := QOK_len (QQ_ok hw p hpn).1
      by_cases hkl : k < (QQ c n p).length
      · obtain ⟨d, hd⟩ := getq hkl
        rw [X1_armsAt (by omega) (hx.2.2 p hpn) hl hd, b_s, b_s, g3]
        by_cases hq : d.1 = ba i
        · rw [if_pos hq, if_neg (fun x => x ⟨p, k, d, hpn, ep, ek, hd, hq⟩)]
          exact ih (i + 1) m (by omega) (by omega)
        · rw [if_neg hq, if_pos]
          rintro ⟨p', k', d', a1, a2, a3, a4, a5⟩
          obtain rfl : p = p' := nI_inj (by omega) (by omega) (ep.symm.trans a2)
          have hk' : k' < 10 := Nat.lt_of_lt_of_le (getq_lt a4) hl
          obtain rfl : k = k' := nI_inj (by omega) (by omega) (ek.symm.trans a3)
          rw [hd] at a4
          cases a4
          exact hq a5
      · rw [X1_armsAt_out (by omega) (hx.2.2 p hpn) hl (fun x => by
          obtain ⟨k', a1, a2⟩ := x
          have := nI_inj (by omega) (by omega) a2
          omega), b_s, b_s, g3, ea, if_neg (fun x => nI_ne_m1 (n := a) (by omega) x.symm), if_pos]
        rintro ⟨p', k', d', a1, a2, a3, a4, a5⟩
        obtain rfl : p = p' := nI_inj (by omega) (by omega) (ep.symm.trans a2)
        have hk' : k' < 10 := Nat.lt_of_lt_of_le (getq_lt a4) hl
        obtain rfl : k = k' := nI_inj (by omega) (by omega) (ek.symm.trans a3)
        exact hkl (getq_lt a4)
    · rw [if_neg (nI_nlt (by omega) (by omega)), b_s, if_neg (by decide), if_pos]
      rintro ⟨p', k', d', a1, a2, a3, a4, a5⟩
      have := nI_inj (by omega) (by omega) (ep.symm.trans a2)
      omega
theorem X0_wrong (hw : WF c n) (hx : CoatsX c n M) (hb : BKok bw bp ba e) (h3 : M 6 3 = nI e) (h22 : ∀ i, i < e → M 22 i = bw i ∧ M 23 i = bp i ∧ M 24 i = ba i) : f_X0_firstWrong M = some (wrF c n bw bp ba e 0) := by
  have h20 := hb.1
  exact X0_wrong_L2 hw hx hb h3 h22 e 0 FU (by omega) (by unfold FU; omega)
theorem R_wrong_L6 (hw : WF c n) (hs : Sw c (M 32) 0) (hx : CoatsR c n M) (hb : BKok bw bp ba e) (h3 : M 31 5 = nI e) (h22 : ∀ i, i < e → M 35 i = bw i ∧ M 36 i = bp i ∧ M 37 i = ba i) : ∀ (j i m : Nat), i + j = e → j < m → f_X11_wrong_L6 m M (nI i) = some (wrF c n bw bp ba j i, M) := by
  have h16 := hw.1
  have h20 := hb.1
  intro j
  induction j with
  | zero =>
    intro i m hi hm
    obtain ⟨m, rfl⟩ : ∃ m', m = m' + 1 := ⟨m - 1, by omega⟩
    rw [f_X11_wrong_L6, h3, if_pos (nI_le (by omega) (by omega))]
    rfl
  | succ j ih =>
    intro i m hi hm
    obtain ⟨m, rfl⟩ : ∃ m', m = m' + 1 := ⟨m - 1, by omega⟩
    obtain ⟨⟨p, hp, ep⟩, ⟨k, hk, ek⟩, ⟨a, ha, ea⟩⟩ := hb.2 i (by omega)
    obtain ⟨g1, g2, g3⟩ := h22 i (by omega)
    rw [f_X11_wrong_L6, h3, if_neg (nI_ge (by omega) (by omega)), ld_ok (by omega), b_s, g1, ep, wrF]
    by_cases hpn : p < n
    · have hl := QOK_len (QQ_ok hw p hpn).1
      rw [R_isOne_in hs hw hpn, b_s, if_neg (by decide), ld_ok (by omega), b_s, g2, ek, ld_ok (by omega), b_s, (hx p hpn).1]
      by_cases hkl : k < (QQ c n p).length
      · obtain ⟨d, hd⟩ := getq hkl
        rw [if_neg (nI_ge hkl (by omega)), b_s, ix10r, ld_ok (by omega), b_s, ((hx p hpn).2 k d hd).1, ld_ok (by omega), b_s, g3, nI_1]
        by_cases hq : d.1 = ba i
        · rw [if_pos hq, if_neg (fun x => x ⟨p, k, d, hpn, ep, ek, hd, hq⟩)]
          exact ih (i + 1) m (by omega) (by omega)
        · rw [if_neg hq, if_pos]
          rintro ⟨p', k', d', a1, a2, a3, a4, a5⟩
          obtain rfl : p = p' := nI_inj (by omega) (by omega) (ep.symm.trans a2)
          have hk' : k' < 10 := Nat.lt_of_lt_of_le (getq_lt a4) hl
          obtain rfl : k = k' := nI_inj (by omega) (by omega) (ek.symm.trans a3)
          rw [hd] at a4
          cases a4
          exact hq a5
      · rw [if_pos (nI_le (by omega) (by omega)), if_pos]
        rintro ⟨p', k', d', a1, a2, a3, a4, a5⟩
        obtain rfl : p = p' := nI_inj (by omega) (by omega) (ep.symm.trans a2)
        have hk' : k' < 10 := Nat.lt_of_lt_of_le (getq_lt a4) hl
        obtain rfl : k = k' := nI_inj (by omega) (by omega) (ek.symm.trans a3)
        exact hkl (getq_lt a4)
    · have hout : ¬ ∃ q, q < n ∧ nI p = nI q := fun x => by
        obtain ⟨q, a1, a2⟩ := x
        have := nI_inj (by omega) (by omega) a2
        omega
      rw [R_isOne_out hs hw hout, b_s, if_pos rfl, if_pos]
      rintro ⟨p', k', d', a1, a2, a3, a4, a5⟩
      have := nI_inj (by omega) (by omega) (ep.symm.trans a2)
      omega
theorem R_wrong (hw : WF c n) (hs : Sw c (M 32) 0) (hb : BKok bw bp ba e) (h3 : M 31 5 = nI e) (h22 : ∀ i, i < e → M 35 i = bw i ∧ M 36 i = bp i ∧ M 37 i = ba i) : ∃ M1, f_X11_wrong M = some (wrF c n bw bp ba e 0, M1) ∧ ∀ q, q ≠ 38 → q ≠ 39 → q ≠ 40 → M1 q = M q := by
  have h20 := hb.1
  obtain ⟨M1, e1, h1, h4⟩ := R_lays hw hs
  refine ⟨M1, ?_, h4⟩
  unfold f_X11_wrong
  rw [e1, b_s]
  exact R_wrong_L6 hw (by rw [h4 32 (by decide) (by decide) (by decide)]; exact hs) h1 hb (by rw [h4 31 (by decide) (by decide) (by decide)]; exact h3) (by rw [h4 35 (by decide) (by decide) (by decide), h4 36 (by decide) (by decide) (by decide), h4 37 (by decide) (by decide) (by decide)]; exact h22) e 0 FU (by omega) (by unfold FU; omega)
end Book
