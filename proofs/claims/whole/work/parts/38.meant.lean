/-! who is meant by the monument -/
def fit (s a : Int32) : Prop := s = 10 ∨ s = a
theorem X8_fits (M : MM) (s a : Int32) : f_X8_fits M s a = some (@ite _ (fit s a) (Classical.propDecidable _) 1 0) := by
  unfold f_X8_fits fit
  by_cases h : s = 10
  · rw [if_pos h, if_pos (Or.inl h), b_s, rz1]
  · by_cases h2 : s = a
    · rw [if_neg h, if_pos h2, if_pos (Or.inr h2), b_s, rz1]
    · rw [if_neg h, if_neg h2, if_neg (fun x => x.elim h h2), b_s, rz0]
theorem R_isAs {c : Nat → Int32} {M : MM} (hs : Sw c (M 32) 0) {k : Nat} (hk : k < 10) (a : Int32) : f_X11_isAs M (nI k) a = some (@ite _ (fit (c (3 + k)) a) (Classical.propDecidable _) 1 0) := by
  unfold f_X11_isAs fit
  rw [R_sign hs hk, b_s, b_s]
  by_cases h : c (3 + k) = 10
  · rw [if_pos h, if_pos (Or.inl h), b_s, rz1]
  · by_cases h2 : c (3 + k) = a
    · rw [if_neg h, if_pos h2, if_pos (Or.inr h2), b_s, rz1]
    · rw [if_neg h, if_neg h2, if_neg (fun x => x.elim h h2), b_s, rz0]
def fitFrom (c : Nat → Int32) (l : QL) (k : Nat) : Prop := ∀ (i : Nat) (e : Int32 × Int32), k ≤ i → l[i]? = some e → fit (c (3 + i)) e.1
theorem fitFrom_s {c : Nat → Int32} {l : QL} {k : Nat} {e : Int32 × Int32} (he : l[k]? = some e) : fitFrom c l k ↔ fit (c (3 + k)) e.1 ∧ fitFrom c l (k + 1) := by
  constructor
  · intro h; exact ⟨h k e (Nat.le_refl k) he, fun i d hi hd => h i d (by omega) hd⟩
  · rintro ⟨h1, h2⟩ i d hi hd
    rcases Nat.eq_or_lt_of_le hi with rfl | q
    · rw [he] at hd; cases hd; exact h1
    · exact h2 i d q hd
theorem fitFrom_end {c : Nat → Int32} {l : QL} {k : Nat} (h : l.length ≤ k) : fitFrom c l k := fun i e hi he => by have := getq_lt he; omega
def allP (c : Nat → Int32) (L : Nat) (l : QL) : Prop := 0 < L ∧ l.length = L ∧ fitFrom c l 0
noncomputable def allB (c : Nat → Int32) (L : Nat) (l : QL) : Bool := @decide (allP c L l) (Classical.propDecidable _)
theorem allB_t {c : Nat → Int32} {L : Nat} {l : QL} : allB c L l = true ↔ allP c L l := @decide_eq_true_iff _ (Classical.propDecidable _)
/-- the rest of the signs, taken one by one at their first fit -/
noncomputable def gr (c : Nat → Int32) (L : Nat) : QL → Nat → Nat
  | [], s => s
  | e :: t, s => gr c L t (@ite _ (s < L ∧ fit (c (3 + s)) e.1) (Classical.propDecidable _) (s + 1) s)
theorem gr_stop (c : Nat → Int32) (L : Nat) : ∀ (l : QL) (s : Nat), L ≤ s → gr c L l s = s
  | [], s, _ => rfl
  | e :: t, s, h => by
    rw [gr, if_neg (fun x => by omega)]
    exact gr_stop c L t s h
theorem gr_le (c : Nat → Int32) (L : Nat) : ∀ (l : QL) (s : Nat), s ≤ L → gr c L l s ≤ L
  | [], s, h => h
  | e :: t, s, h => by
    rw [gr]
    by_cases q : s < L ∧ fit (c (3 + s)) e.1
    · rw [if_pos q]; exact gr_le c L t _ (by omega)
    · rw [if_neg q]; exact gr_le c L t _ h
def someP (c : Nat → Int32) (L : Nat) (l : QL) : Prop := 0 < L ∧ (∀ e, l[0]? = some e → fit (c 3) e.1) ∧ gr c L (l.drop 1) 1 = L
noncomputable def someB (c : Nat → Int32) (L : Nat) (l : QL) : Bool := @decide (someP c L l) (Classical.propDecidable _)
theorem someB_t {c : Nat → Int32} {L : Nat} {l : QL} : someB c L l = true ↔ someP c L l := @decide_eq_true_iff _ (Classical.propDecidable _)
section Meant
variable {c : Nat → Int32} {M : MM} {n p L : Nat} {l : QL}
theorem X8_fitsEach_L2 (hc : Rc c M) (hp : p < 17) (r : RowIs 11 12 13 M p l) (hL : L ≤ 10) (h2 : c 2 = nI L) (hl : l.length = L) : ∀ (j k m : Nat), k + j = L → j < m → f_X8_fitsEach_L2 m M (nI p) (nI k) = some (@ite _ (fitFrom c l k) (Classical.propDecidable _) 1 0) := by
  intro j
  induction j with
  | zero =>
    intro k m hk hm
    obtain ⟨m, rfl⟩ : ∃ m', m = m' + 1 := ⟨m - 1, by omega⟩
    rw [f_X8_fitsEach_L2, X7_signs hc, b_s, h2, if_pos (nI_le (by omega) (by omega)), if_pos (fitFrom_end (by omega)), rz1]
  | succ j ih =>
    intro k m hk hm
    obtain ⟨m, rfl⟩ : ∃ m', m = m' + 1 := ⟨m - 1, by omega⟩
    obtain ⟨e, he⟩ := getq (l := l) (k := k) (by omega)
    rw [f_X8_fitsEach_L2, X7_signs hc, b_s, h2, if_neg (nI_ge (by omega) (by omega)), X7_sign_in hc hL h2 (by omega), b_s, X1_armsAt hp r (by omega) he, b_s, X8_fits, b_s, nI_1]
    by_cases h : fit (c (3 + k)) e.1
    · rw [if_pos h, if_neg (by decide), ih (k + 1) m (by omega) (by omega)]
      congr 1
      apply ite_iff
      rw [fitFrom_s he]
      exact ⟨fun x => ⟨h, x⟩, fun x => x.2⟩
    · rw [if_neg h, if_pos rfl, if_neg (fun x => h ((fitFrom_s he).mp x).1), rz0]
theorem X8_all_L5 (hc : Rc c M) (hw : WF c n) (hx : CoatsX c n M) (hL : L ≤ 10) (h2 : c 2 = nI L) : ∀ (k i m : Nat), i + k = n → k < m → f_X8_meantByAll_L5 m M (bs (fun p => allB c L (QQ c n p)) i) (nI i) = some (bs (fun p => allB c L (QQ c n p)) n) := by
  have h16 := hw.1
  intro k
  induction k with
  | zero =>
    intro i m hi hm
    obtain ⟨m, rfl⟩ : ∃ m', m = m' + 1 := ⟨m - 1, by omega⟩
    rw [f_X8_meantByAll_L5, X7_people hc hw, b_s, if_pos (nI_le (by omega) (by omega)), show i = n by omega]
  | succ k ih =>
    intro i m hi hm
    obtain ⟨m, rfl⟩ : ∃ m', m = m' + 1 := ⟨m - 1, by omega⟩
    have e := ih (i + 1) m (by omega) (by omega)
    rw [bs_step] at e
    have r := hx.2.2 i (by omega)
    have hl := QOK_len (QQ_ok hw i (by omega)).1
    rw [f_X8_meantByAll_L5, X7_people hc hw, b_s, if_neg (nI_ge (by omega) (by omega)), X7_signs hc, b_s, h2, nI_1]
    by_cases h0 : L = 0
    · rw [if_pos (show nI L ≤ 0 by rw [h0]; decide), b_s]
      rw [if_neg (fun x => by have := (allB_t.mp x).1; omega)] at e
      exact e
    · rw [if_neg (nI_nle (by omega) (by omega)), X1_sizeOf (by omega) r, b_s, b_s]
      by_cases h1 : (QQ c n i).length = L
      · rw [if_pos (by rw [h1])]
        have ef : f_X8_fitsEach M (nI i) = _ := X8_fitsEach_L2 hc (show i < 17 by omega) r hL h2 h1 L 0 FU (by omega) (by unfold FU; omega)
        rw [ef, b_s]
        by_cases h3 : fitFrom c (QQ c n i) 0
        · rw [if_pos h3, if_neg (by decide), b_s]
          rw [if_pos (allB_t.mpr ⟨by omega, h1, h3⟩)] at e
          exact e
        · rw [if_neg h3, if_pos rfl, b_s]
          rw [if_neg (fun x => h3 (allB_t.mp x).2.2)] at e
          exact e
      · rw [if_neg (fun x => h1 (nI_inj (by omega) (by omega) x)), b_s]
        rw [if_neg (fun x => h1 (allB_t.mp x).2.1)] at e
        exact e
theorem X8_all (hc : Rc c M) (hw : WF c n) (hx : CoatsX c n M) (hL : L ≤ 10) (h2 : c 2 = nI L) : f_X8_meantByAll M = some (bs (fun p => allB c L (QQ c n p)) n) := by
  have h16 := hw.1
  unfold f_X8_meantByAll
  rw [show f_X8_meantByAll_L5 FU M (0 : Int32) (0 : Int32) = _ from X8_all_L5 hc hw hx hL h2 n 0 FU (by omega) (by unfold FU; omega), b_s]
theorem R_isAll_L32 (hs : Sw c (M 32) 0) (hp : p < 17) (r : RowIs 38 39 40 M p l) (hL : L ≤ 10) (hl : l.length = L) : ∀ (j k m : Nat), k + j = L → j < m → f_X11_isAll_L32 m M (nI p) 1 (nI k) = some (@ite _ (fitFrom c l k) (Classical.propDecidable _) 1 0) := by
  intro j
  induction j with
  | zero =>
    intro k m hk hm
    obtain ⟨m, rfl⟩ : ∃ m', m = m' + 1 := ⟨m - 1, by omega⟩
    rw [f_X11_isAll_L32, ld_ok hp, b_s, r.1, if_pos (nI_le (by omega) (by omega)), if_pos (fitFrom_end (by omega))]
  | succ j ih =>
    intro k m hk hm
    obtain ⟨m, rfl⟩ : ∃ m', m = m' + 1 := ⟨m - 1, by omega⟩
    obtain ⟨e, he⟩ := getq (l := l) (k := k) (by omega)
    rw [f_X11_isAll_L32, ld_ok hp, b_s, r.1, if_neg (nI_ge (by omega) (by omega)), if_neg (by decide), ix10r, ld_ok (by omega), b_s, (r.2 k e he).1, R_isAs hs (by omega), b_s, nI_1]
    by_cases h : fit (c (3 + k)) e.1
    · rw [if_pos h, ih (k + 1) m (by omega) (by omega)]
      congr 1
      apply ite_iff
      rw [fitFrom_s he]
      exact ⟨fun x => ⟨h, x⟩, fun x => x.2⟩
    · rw [if_neg h, if_neg (fun x => h ((fitFrom_s he).mp x).1)]
      obtain ⟨m, rfl⟩ : ∃ m', m = m' + 1 := ⟨m - 1, by omega⟩
      rw [f_X11_isAll_L32, ld_ok hp, b_s]
      by_cases h5 : M 38 p ≤ nI (k + 1)
      · rw [if_pos h5]
      · rw [if_neg h5, if_pos rfl]
theorem R_isAll (hs : Sw c (M 32) 0) (hp : p < 17) (r : RowIs 38 39 40 M p l) (hl : l.length ≤ 10) (hL : L ≤ 10) (h2 : c 2 = nI L) : f_X11_isAll M (nI p) = some (if allB c L l = true then 1 else 0) := by
  unfold f_X11_isAll
  rw [R_len hs, b_s, h2]
  have z : (f_X11_isAll_L32 FU M (nI p) (0 : Int32) (0 : Int32)).bind (fun w32 => z_rzp w32) = some 0 := by
    rw [show FU = 99999 + 1 from rfl, f_X11_isAll_L32, ld_ok hp, b_s]
    by_cases h5 : M 38 p ≤ 0
    · rw [if_pos h5, b_s, rz0]
    · rw [if_neg h5, if_pos rfl, b_s, rz0]
  by_cases h0 : L = 0
  · rw [if_pos (show nI L ≤ 0 by rw [h0]; decide), b_s, if_neg (fun x => by have := (allB_t.mp x).1; omega)]
    exact z
  · rw [if_neg (nI_nle (by omega) (by omega)), ld_ok hp, b_s, r.1, b_s]
    by_cases h1 : l.length = L
    · rw [if_pos (by rw [h1]), b_s, show f_X11_isAll_L32 FU M (nI p) (1 : Int32) (0 : Int32) = _ from R_isAll_L32 hs hp r hL h1 L 0 FU (by omega) (by unfold FU; omega), b_s]
      by_cases h3 : fitFrom c l 0
      · rw [if_pos h3, if_pos (allB_t.mpr ⟨by omega, h1, h3⟩), rz1]
      · rw [if_neg h3, if_neg (fun x => h3 (allB_t.mp x).2.2), rz0]
    · rw [if_neg (fun x => h1 (nI_inj (by omega) (by omega) x)), b_s, if_neg (fun x => h1 (allB_t.mp x).2.1)]
      exact z
theorem X8_rest_L5 (hc : Rc c M) (hp : p < 17) (r : RowIs 11 12 13 M p l) (hl : l.length ≤ 10) (hL : L ≤ 10) (h2 : c 2 = nI L) : ∀ (j k s m : Nat), k + j = l.length → j < m → s ≤ L → f_X8_holdsRest_L5 m M (nI p) (nI s) (nI k) = some (nI (gr c L (l.drop k) s)) := by
  intro j
  induction j with
  | zero =>
    intro k s m hk hm hsL
    obtain ⟨m, rfl⟩ : ∃ m', m = m' + 1 := ⟨m - 1, by omega⟩
    rw [f_X8_holdsRest_L5, X1_sizeOf hp r, b_s, if_pos (nI_le (by omega) (by omega)), List.drop_of_length_le (by omega)]
    rfl
  | succ j ih =>
    intro k s m hk hm hsL
    obtain ⟨m, rfl⟩ : ∃ m', m = m' + 1 := ⟨m - 1, by omega⟩
    obtain ⟨e, he⟩ := getq (l := l) (k := k) (by omega)
    rw [f_X8_holdsRest_L5, X1_sizeOf hp r, b_s, if_neg (nI_ge (by omega) (by omega)), X7_signs hc, b_s, h2]
    by_cases hs : L ≤ s
    · rw [if_pos (nI_le hs (by omega)), gr_stop _ _ _ _ hs]
    · rw [if_neg (nI_ge (by omega) (by omega)), X7_sign_in hc hL h2 (by omega), b_s, X1_armsAt hp r hl he, b_s, X8_fits, b_s, drop_get he, gr, nI_1]
      by_cases h : fit (c (3 + s)) e.1
      · rw [if_pos h, if_neg (by decide), b_s, if_pos ⟨by omega, h⟩, nI_1]
        exact ih (k + 1) (s + 1) m (by omega) (by omega) (by omega)
      · rw [if_neg h, if_pos rfl, b_s, if_neg (fun x => h x.2), nI_1]
        exact ih (k + 1) s m (by omega) (by omega) hsL
theorem X8_some_L5 (hc : Rc c M) (hw : WF c n) (hx : CoatsX c n M) (hL : L ≤ 10) (h2 : c 2 = nI L) : ∀ (k i m : Nat), i + k = n → k < m → f_X8_meantBySome_L5 m M (bs (fun p => someB c L (QQ c n p)) i) (nI i) = some (bs (fun p => someB c L (QQ c n p)) n) := by
  have h16 := hw.1
  intro k
  induction k with
  | zero =>
    intro i m hi hm
    obtain ⟨m, rfl⟩ : ∃ m', m = m' + 1 := ⟨m - 1, by omega⟩
    rw [f_X8_meantBySome_L5, X7_people hc hw, b_s, if_pos (nI_le (by omega) (by omega)), show i = n by omega]
  | succ k ih =>
    intro i m hi hm
    obtain ⟨m, rfl⟩ : ∃ m', m = m' + 1 := ⟨m - 1, by omega⟩
    have e := ih (i + 1) m (by omega) (by omega)
    rw [bs_step] at e
    have r := hx.2.2 i (by omega)
    have hq := QQ_ok hw i (by omega)
    have hl := QOK_len hq.1
    rw [f_X8_meantBySome_L5, X7_people hc hw, b_s, if_neg (nI_ge (by omega) (by omega)), X7_signs hc, b_s, h2, nI_1]
    by_cases h0 : L = 0
    · rw [if_pos (show nI L ≤ 0 by rw [h0]; decide), b_s]
      rw [if_neg (fun x => by have := (someB_t.mp x).1; omega)] at e
      exact e
    · obtain ⟨d, hd⟩ := getq (l := QQ c n i) (k := 0) (by
        cases hh : QQ c n i with
        | nil => exact absurd hh hq.2
        | cons a b => simp)
      rw [if_neg (nI_nle (by omega) (by omega)), show f_X7_signNumber M (0 : Int32) = some (c (3 + 0)) from X7_sign_in hc hL h2 (k := 0) (by omega), b_s, show f_X1_armsAt M (nI i) (0 : Int32) = some d.1 from X1_armsAt (by omega) r hl hd, b_s, X8_fits, b_s]
      by_cases h3 : fit (c (3 + 0)) d.1
      · rw [if_pos h3, if_neg (by decide)]
        have hlen := getq_lt hd
        have er : f_X8_holdsRest M (nI i) = some (if gr c L ((QQ c n i).drop 1) 1 = L then 1 else 0) := by
          unfold f_X8_holdsRest
          rw [show f_X8_holdsRest_L5 FU M (nI i) (1 : Int32) (1 : Int32) = _ from X8_rest_L5 hc (by omega) r hl hL h2 ((QQ c n i).length - 1) 1 1 FU (by omega) (by unfold FU; omega) (by omega), b_s, X7_signs hc, b_s, h2]
          have g1 := gr_le c L ((QQ c n i).drop 1) 1 (by omega)
          by_cases g : gr c L ((QQ c n i).drop 1) 1 = L
          · rw [if_neg (nI_nlt (by omega) (by omega)), if_pos g, b_s, rz1]
          · rw [if_pos (nI_lt (by omega) (by omega)), if_neg g, b_s, rz0]
        rw [er, b_s]
        by_cases g : gr c L ((QQ c n i).drop 1) 1 = L
        · rw [if_pos g, if_neg (by decide), b_s]
          rw [if_pos (someB_t.mpr ⟨by omega, fun x hx => by rw [hd] at hx; cases hx; exact h3, g⟩)] at e
          exact e
        · rw [if_neg g, if_pos rfl, b_s]
          rw [if_neg (fun x => g (someB_t.mp x).2.2)] at e
          exact e
      · rw [if_neg h3, if_pos rfl, b_s]
        rw [if_neg (fun x => h3 ((someB_t.mp x).2.1 d hd))] at e
        exact e
theorem X8_some (hc : Rc c M) (hw : WF c n) (hx : CoatsX c n M) (hL : L ≤ 10) (h2 : c 2 = nI L) : f_X8_meantBySome M = some (bs (fun p => someB c L (QQ c n p)) n) := by
  have h16 := hw.1
  unfold f_X8_meantBySome
  rw [show f_X8_meantBySome_L5 FU M (0 : Int32) (0 : Int32) = _ from X8_some_L5 hc hw hx hL h2 n 0 FU (by omega) (by unfold FU; omega), b_s]
theorem R_some_L32 (hs : Sw c (M 32) 0) (hp : p < 17) (r : RowIs 38 39 40 M p l) (hl : l.length ≤ 10) (hL : L ≤ 10) (h2 : c 2 = nI L) : ∀ (j k s m : Nat), k + j = l.length → j < m → s ≤ L → f_X11_isSome_L32 m M (nI p) (nI s) (nI k) = some (nI (gr c L (l.drop k) s)) := by
  intro j
  induction j with
  | zero =>
    intro k s m hk hm hsL
    obtain ⟨m, rfl⟩ : ∃ m', m = m' + 1 := ⟨m - 1, by omega⟩
    rw [f_X11_isSome_L32, ld_ok hp, b_s, r.1, if_pos (nI_le (by omega) (by omega)), List.drop_of_length_le (by omega)]
    rfl
  | succ j ih =>
    intro k s m hk hm hsL
    obtain ⟨m, rfl⟩ : ∃ m', m = m' + 1 := ⟨m - 1, by omega⟩
    obtain ⟨e, he⟩ := getq (l := l) (k := k) (by omega)
    rw [f_X11_isSome_L32, ld_ok hp, b_s, r.1, if_neg (nI_ge (by omega) (by omega)), R_len hs, b_s, h2, drop_get he, gr, nI_1]
    by_cases hsl : L ≤ s
    · rw [if_pos (nI_le hsl (by omega)), b_s, if_neg (fun x => by omega), show nI s + (0 : Int32) = nI s from nI_add s 0]
      exact ih (k + 1) s m (by omega) (by omega) hsL
    · rw [if_neg (nI_ge (by omega) (by omega)), ix10r, ld_ok (by omega), b_s, (r.2 k e he).1, R_isAs hs (by omega), b_s]
      by_cases h : fit (c (3 + s)) e.1
      · rw [if_pos h, if_neg (by decide), b_s, if_pos ⟨by omega, h⟩, nI_1]
        exact ih (k + 1) (s + 1) m (by omega) (by omega) (by omega)
      · rw [if_neg h, if_pos rfl, b_s, if_neg (fun x => h x.2), show nI s + (0 : Int32) = nI s from nI_add s 0]
        exact ih (k + 1) s m (by omega) (by omega) hsL
theorem R_isSome (hs : Sw c (M 32) 0) (hp : p < 17) (r : RowIs 38 39 40 M p l) (hl : l.length ≤ 10) (hne : l ≠ []) (hL : L ≤ 10) (h2 : c 2 = nI L) : f_X11_isSome M (nI p) = some (if someB c L l = true then 1 else 0) := by
  unfold f_X11_isSome
  rw [R_len hs, b_s, h2]
  by_cases h0 : L = 0
  · rw [if_pos (show nI L = 0 by rw [h0]; rfl), if_neg (fun x => by have := (someB_t.mp x).1; omega), rz0]
  · obtain ⟨d, hd⟩ := getq (l := l) (k := 0) (by
      cases l with
      | nil => exact absurd rfl hne
      | cons a b => simp)
    have hlen := getq_lt hd
    rw [if_neg (nI_ne0 (by omega) (by omega)), show (10 : Int32) * nI p = nI (10 * p + 0) from (pk_mul 10 p), ld_ok (by omega), b_s, (r.2 0 d hd).1, show f_X11_isAs M (0 : Int32) d.1 = _ from R_isAs hs (k := 0) (by decide) d.1, b_s]
    by_cases h3 : fit (c (3 + 0)) d.1
    · rw [if_pos h3, if_neg (by decide), show f_X11_isSome_L32 FU M (nI p) (1 : Int32) (1 : Int32) = _ from R_some_L32 hs hp r hl hL h2 (l.length - 1) 1 1 FU (by omega) (by unfold FU; omega) (by omega), b_s, b_s]
      have g1 := gr_le c L (l.drop 1) 1 (by omega)
      by_cases g : gr c L (l.drop 1) 1 = L
      · rw [if_pos (by rw [g]), b_s, if_pos (someB_t.mpr ⟨by omega, fun x hx => by rw [hd] at hx; cases hx; exact h3, g⟩), rz1]
      · rw [if_neg (fun x => g (nI_inj (by omega) (by omega) x)), b_s, if_neg (fun x => g (someB_t.mp x).2.2), rz0]
    · rw [if_neg h3, if_pos rfl, if_neg (fun x => h3 ((someB_t.mp x).2.1 d hd)), rz0]
theorem R_meant_L8a (hs : Sw c (M 32) 0) (hw : WF c n) (hx : CoatsR c n M) (hL : L ≤ 10) (h2 : c 2 = nI L) : ∀ (k i m : Nat), i + k = n → k < m → f_X11_meant_L8 m M 1 (bs (fun p => allB c L (QQ c n p)) i) (nI i) = some (bs (fun p => allB c L (QQ c n p)) n) := by
  have h16 := hw.1
  intro k
  induction k with
  | zero =>
    intro i m hi hm
    obtain ⟨m, rfl⟩ : ∃ m', m = m' + 1 := ⟨m - 1, by omega⟩
    rw [f_X11_meant_L8, R_n hs hw, b_s, if_pos (nI_le (by omega) (by omega)), show i = n by omega]
  | succ k ih =>
    intro i m hi hm
    obtain ⟨m, rfl⟩ : ∃ m', m = m' + 1 := ⟨m - 1, by omega⟩
    have e := ih (i + 1) m (by omega) (by omega)
    rw [bs_step] at e
    have hq := QQ_ok hw i (by omega)
    rw [f_X11_meant_L8, R_n hs hw, b_s, if_neg (nI_ge (by omega) (by omega)), if_neg (by decide), R_isAll hs (by omega) (hx i (by omega)) (QOK_len hq.1) hL h2, b_s, nI_1]
    by_cases h : allB c L (QQ c n i) = true
    · rw [if_pos h, if_neg (by decide), b_s]
      rw [if_pos h] at e
      exact e
    · rw [if_neg h, if_pos rfl, b_s, zor0]
      rw [if_neg h] at e
      exact e
theorem R_meant_L8s (hs : Sw c (M 32) 0) (hw : WF c n) (hx : CoatsR c n M) (hL : L ≤ 10) (h2 : c 2 = nI L) : ∀ (k i m : Nat), i + k = n → k < m → f_X11_meant_L8 m M 0 (bs (fun p => someB c L (QQ c n p)) i) (nI i) = some (bs (fun p => someB c L (QQ c n p)) n) := by
  have h16 := hw.1
  intro k
  induction k with
  | zero =>
    intro i m hi hm
    obtain ⟨m, rfl⟩ : ∃ m', m = m' + 1 := ⟨m - 1, by omega⟩
    rw [f_X11_meant_L8, R_n hs hw, b_s, if_pos (nI_le (by omega) (by omega)), show i = n by omega]
  | succ k ih =>
    intro i m hi hm
    obtain ⟨m, rfl⟩ : ∃ m', m = m' + 1 := ⟨m - 1, by omega⟩
    have e := ih (i + 1) m (by omega) (by omega)
    rw [bs_step] at e
    have hq := QQ_ok hw i (by omega)
    rw [f_X11_meant_L8, R_n hs hw, b_s, if_neg (nI_ge (by omega) (by omega)), if_pos rfl, R_isSome hs (by omega) (hx i (by omega)) (QOK_len hq.1) hq.2 hL h2, b_s, nI_1]
    by_cases h : someB c L (QQ c n i) = true
    · rw [if_pos h, if_neg (by decide), b_s]
      rw [if_pos h] at e
      exact e
    · rw [if_neg h, if_pos rfl, b_s, zor0]
      rw [if_neg h] at e
      exact e
theorem R_meant_all (hw : WF c n) (hs : Sw c (M 32) 0) (hL : L ≤ 10) (h2 : c 2 = nI L) : ∃ M1, f_X11_meant M 1 = some (bs (fun p => allB c L (QQ c n p)) n, M1) ∧ ∀ q, q ≠ 38 → q ≠ 39 → q ≠ 40 → M1 q = M q := by
  have h16 := hw.1
  obtain ⟨M1, e1, h1, h3⟩ := R_lays hw hs
  have hs1 : Sw c (M1 32) 0 := by rw [h3 32 (by decide) (by decide) (by decide)]; exact hs
  refine ⟨M1, ?_, h3⟩
  unfold f_X11_meant
  rw [e1, b_s, show f_X11_meant_L8 FU M1 1 (0 : Int32) (0 : Int32) = _ from R_meant_L8a hs1 hw h1 hL h2 n 0 FU (by omega) (by unfold FU; omega), b_s]
theorem R_meant_some (hw : WF c n) (hs : Sw c (M 32) 0) (hL : L ≤ 10) (h2 : c 2 = nI L) : ∃ M1, f_X11_meant M 0 = some (bs (fun p => someB c L (QQ c n p)) n, M1) ∧ ∀ q, q ≠ 38 → q ≠ 39 → q ≠ 40 → M1 q = M q := by
  have h16 := hw.1
  obtain ⟨M1, e1, h1, h3⟩ := R_lays hw hs
  have hs1 : Sw c (M1 32) 0 := by rw [h3 32 (by decide) (by decide) (by decide)]; exact hs
  refine ⟨M1, ?_, h3⟩
  unfold f_X11_meant
  rw [e1, b_s, show f_X11_meant_L8 FU M1 0 (0 : Int32) (0 : Int32) = _ from R_meant_L8s hs1 hw h1 hL h2 n 0 FU (by omega) (by unfold FU; omega), b_s]
end Meant
