/-! who bears the same, how many unlike coats there are -/
theorem map_get {l : QL} {k : Nat} {e : Int32 × Int32} (h : l[k]? = some e) : (l.map Prod.fst)[k]? = some e.1 := by rw [List.getElem?_map, h]; rfl
theorem map_none {l : QL} {k : Nat} (h : l.length ≤ k) : (l.map Prod.fst)[k]? = none := List.getElem?_eq_none (by simpa using h)
def eqFrom (a b : QL) (k : Nat) : Prop := ∀ i, k ≤ i → (a.map Prod.fst)[i]? = (b.map Prod.fst)[i]?
theorem eqFrom_0 {a b : QL} : eqFrom a b 0 ↔ a.map Prod.fst = b.map Prod.fst := ⟨fun h => List.ext_getElem? (fun i => h i (Nat.zero_le i)), fun h i _ => by rw [h]⟩
theorem eqFrom_end {a b : QL} {k : Nat} (h : a.length = b.length) (hk : a.length ≤ k) : eqFrom a b k := fun i hi => by rw [map_none (by omega), map_none (by omega)]
theorem eqFrom_s {a b : QL} {k : Nat} {e d : Int32 × Int32} (ha : a[k]? = some e) (hb : b[k]? = some d) : eqFrom a b k ↔ e.1 = d.1 ∧ eqFrom a b (k + 1) := by
  constructor
  · intro h
    have h1 := h k (Nat.le_refl k)
    rw [map_get ha, map_get hb] at h1
    exact ⟨Option.some.inj h1, fun i hi => h i (by omega)⟩
  · rintro ⟨h1, h2⟩ i hi
    rcases Nat.eq_or_lt_of_le hi with rfl | q
    · rw [map_get ha, map_get hb, h1]
    · exact h2 i q
theorem eqFrom_len {a b : QL} (h : eqFrom a b 0) : a.length = b.length := by
  have := congrArg List.length (eqFrom_0.mp h)
  simpa using this
section Same
variable {M : MM} {p q : Nat} {a b : QL}
theorem X1_isSame_L17 (hp : p < 17) (hq : q < 17) (ra : RowIs 11 12 13 M p a) (rb : RowIs 11 12 13 M q b) (la : a.length ≤ 10) (hl : a.length = b.length) : ∀ (j k m : Nat), k + j = a.length → j < m → f_X1_isSame_L17 m M (nI p) (nI q) (nI k) = some (@ite _ (eqFrom a b k) (Classical.propDecidable _) 1 0) := by
  intro j
  induction j with
  | zero =>
    intro k m hk hm
    obtain ⟨m, rfl⟩ : ∃ m', m = m' + 1 := ⟨m - 1, by omega⟩
    rw [f_X1_isSame_L17, X1_sizeOf hp ra, b_s, if_pos (nI_le (by omega) (by omega)), if_pos (eqFrom_end hl (by omega)), rz1]
  | succ j ih =>
    intro k m hk hm
    obtain ⟨m, rfl⟩ : ∃ m', m = m' + 1 := ⟨m - 1, by omega⟩
    obtain ⟨e, he⟩ := getq (l := a) (k := k) (by omega)
    obtain ⟨d, hd⟩ := getq (l := b) (k := k) (by omega)
    rw [f_X1_isSame_L17, X1_sizeOf hp ra, b_s, if_neg (nI_ge (by omega) (by omega)), X1_armsAt hp ra la he, b_s, X1_armsAt hq rb (by omega) hd, b_s, nI_1]
    by_cases h : e.1 = d.1
    · rw [if_pos h, ih (k + 1) m (by omega) (by omega)]
      congr 1
      apply ite_iff
      rw [eqFrom_s he hd]
      exact ⟨fun x => ⟨h, x⟩, fun x => x.2⟩
    · rw [if_neg h, if_neg (fun x => h ((eqFrom_s he hd).mp x).1), rz0]
theorem X1_isSame (hp : p < 17) (hq : q < 17) (ra : RowIs 11 12 13 M p a) (rb : RowIs 11 12 13 M q b) (la : a.length ≤ 10) (lb : b.length ≤ 10) : f_X1_isSame M (nI p) (nI q) = some (if a.map Prod.fst = b.map Prod.fst then 1 else 0) := by
  unfold f_X1_isSame
  rw [X1_sizeOf hp ra, b_s, X1_sizeOf hq rb, b_s]
  by_cases h : a.length = b.length
  · rw [if_pos (by rw [h]), show f_X1_isSame_L17 FU M (nI p) (nI q) (0 : Int32) = _ from X1_isSame_L17 hp hq ra rb la h a.length 0 FU (by omega) (by unfold FU; omega)]
    congr 1
    exact ite_iff eqFrom_0
  · rw [if_neg (fun x => h (nI_inj (by omega) (by omega) x)), if_neg (fun x => h (eqFrom_len (eqFrom_0.mpr x))), rz0]
theorem R_isSame_L24 (hp : p < 17) (hq : q < 17) (ra : RowIs 38 39 40 M p a) (rb : RowIs 38 39 40 M q b) (la : a.length ≤ 10) (hl : a.length = b.length) : ∀ (j k m : Nat), k + j = a.length → j < m → f_X11_isSame_L24 m M (nI p) (nI q) 1 (nI k) = some (@ite _ (eqFrom a b k) (Classical.propDecidable _) 1 0) := by
  intro j
  induction j with
  | zero =>
    intro k m hk hm
    obtain ⟨m, rfl⟩ : ∃ m', m = m' + 1 := ⟨m - 1, by omega⟩
    rw [f_X11_isSame_L24, ld_ok hp, b_s, ra.1, if_pos (nI_le (by omega) (by omega)), if_pos (eqFrom_end hl (by omega))]
  | succ j ih =>
    intro k m hk hm
    obtain ⟨m, rfl⟩ : ∃ m', m = m' + 1 := ⟨m - 1, by omega⟩
    obtain ⟨e, he⟩ := getq (l := a) (k := k) (by omega)
    obtain ⟨d, hd⟩ := getq (l := b) (k := k) (by omega)
    rw [f_X11_isSame_L24, ld_ok hp, b_s, ra.1, if_neg (nI_ge (by omega) (by omega)), if_neg (by decide), ix10r, ld_ok (by omega), b_s, ix10r, ld_ok (by omega), b_s, (ra.2 k e he).1, (rb.2 k d hd).1, nI_1]
    by_cases h : e.1 = d.1
    · rw [if_pos h, b_s, ih (k + 1) m (by omega) (by omega)]
      congr 1
      apply ite_iff
      rw [eqFrom_s he hd]
      exact ⟨fun x => ⟨h, x⟩, fun x => x.2⟩
    · rw [if_neg h, b_s, if_neg (fun x => h ((eqFrom_s he hd).mp x).1)]
      obtain ⟨m, rfl⟩ : ∃ m', m = m' + 1 := ⟨m - 1, by omega⟩
      rw [f_X11_isSame_L24, ld_ok hp, b_s]
      by_cases h5 : M 38 p ≤ nI (k + 1)
      · rw [if_pos h5]
      · rw [if_neg h5, if_pos rfl]
theorem R_isSame (hp : p < 17) (hq : q < 17) (ra : RowIs 38 39 40 M p a) (rb : RowIs 38 39 40 M q b) (la : a.length ≤ 10) (lb : b.length ≤ 10) : f_X11_isSame M (nI p) (nI q) = some (if a.map Prod.fst = b.map Prod.fst then 1 else 0) := by
  unfold f_X11_isSame
  rw [ld_ok hp, b_s, ra.1, ld_ok hq, b_s, rb.1]
  by_cases h : a.length = b.length
  · rw [if_pos (by rw [h]), b_s, show f_X11_isSame_L24 FU M (nI p) (nI q) (1 : Int32) (0 : Int32) = _ from R_isSame_L24 hp hq ra rb la h a.length 0 FU (by omega) (by unfold FU; omega), b_s]
    by_cases g : a.map Prod.fst = b.map Prod.fst
    · rw [if_pos (eqFrom_0.mpr g), if_pos g, rz1]
    · rw [if_neg (fun x => g (eqFrom_0.mp x)), if_neg g, rz0]
  · rw [if_neg (fun x => h (nI_inj (by omega) (by omega) x)), b_s, if_neg (fun x => h (eqFrom_len (eqFrom_0.mpr x))), show FU = 99999 + 1 from rfl, f_X11_isSame_L24, ld_ok hp, b_s]
    by_cases h5 : M 38 p ≤ 0
    · rw [if_pos h5, b_s, rz0]
    · rw [if_neg h5, if_pos rfl, b_s, rz0]
end Same
/-- whether p and q bear the same; whether p is the first of those who bear that coat -/
noncomputable def sameB (c : Nat → Int32) (n p q : Nat) : Bool := decide ((QQ c n p).map Prod.fst = (QQ c n q).map Prod.fst)
theorem sameB_t {c : Nat → Int32} {n p q : Nat} : sameB c n p q = true ↔ (QQ c n p).map Prod.fst = (QQ c n q).map Prod.fst := decide_eq_true_iff
theorem sameB_if {c : Nat → Int32} {n p q : Nat} : (if (QQ c n p).map Prod.fst = (QQ c n q).map Prod.fst then (1 : Int32) else 0) = if sameB c n p q = true then 1 else 0 := ite_iff sameB_t.symm
noncomputable def ucn (c : Nat → Int32) (n : Nat) : Nat → Nat
  | 0 => 0
  | k + 1 => ucn c n k + @ite _ (∃ r, r < k ∧ sameB c n r k = true) (Classical.propDecidable _) 0 1
theorem ucn_le (c : Nat → Int32) (n : Nat) : ∀ k, ucn c n k ≤ k
  | 0 => Nat.le_refl 0
  | k + 1 => by
    have := ucn_le c n k
    show ucn c n k + _ ≤ k + 1
    split <;> omega
section Same2
variable {c : Nat → Int32} {M : MM} {n : Nat}
theorem X1_sameAs_L4 (hw : WF c n) (hx : CoatsX c n M) {p : Nat} (hp : p < n) : ∀ (k i m : Nat), i + k = n → k < m → f_X1_sameAs_L4 m M (nI p) (bs (sameB c n p) i) (nI i) = some (bs (sameB c n p) n) := by
  have h16 := hw.1
  have ok := QQ_ok hw
  intro k
  induction k with
  | zero =>
    intro i m hi hm
    obtain ⟨m, rfl⟩ : ∃ m', m = m' + 1 := ⟨m - 1, by omega⟩
    rw [f_X1_sameAs_L4, hx.1, if_pos (nI_le (by omega) (by omega)), show i = n by omega]
  | succ k ih =>
    intro i m hi hm
    obtain ⟨m, rfl⟩ : ∃ m', m = m' + 1 := ⟨m - 1, by omega⟩
    have e := ih (i + 1) m (by omega) (by omega)
    rw [bs_step] at e
    rw [f_X1_sameAs_L4, hx.1, if_neg (nI_ge (by omega) (by omega)), X1_isSame (by omega) (by omega) (hx.2.2 p hp) (hx.2.2 i (by omega)) (QOK_len (ok p hp).1) (QOK_len (ok i (by omega)).1), b_s, sameB_if, nI_1]
    by_cases h : sameB c n p i = true
    · rw [if_pos h, if_neg (by decide), b_s]
      rw [if_pos h] at e
      exact e
    · rw [if_neg h, if_pos rfl, b_s]
      rw [if_neg h] at e
      exact e
theorem X1_sameAs (hw : WF c n) (hx : CoatsX c n M) {p : Nat} (hp : p < n) : f_X1_sameAs M (nI p) = some (bs (sameB c n p) n) := by
  have h16 := hw.1
  unfold f_X1_sameAs
  rw [show f_X1_sameAs_L4 FU M (nI p) (0 : Int32) (0 : Int32) = _ from X1_sameAs_L4 hw hx hp n 0 FU (by omega) (by unfold FU; omega), b_s]
theorem R_same_L4 (hw : WF c n) (hs : Sw c (M 32) 0) (hx : CoatsR c n M) {p : Nat} (hp : p < n) : ∀ (k i m : Nat), i + k = n → k < m → f_X11_same_L4 m M (nI p) (bs (sameB c n p) i) (nI i) = some (bs (sameB c n p) n) := by
  have h16 := hw.1
  have ok := QQ_ok hw
  intro k
  induction k with
  | zero =>
    intro i m hi hm
    obtain ⟨m, rfl⟩ : ∃ m', m = m' + 1 := ⟨m - 1, by omega⟩
    rw [f_X11_same_L4, R_n hs hw, b_s, if_pos (nI_le (by omega) (by omega)), show i = n by omega]
  | succ k ih =>
    intro i m hi hm
    obtain ⟨m, rfl⟩ : ∃ m', m = m' + 1 := ⟨m - 1, by omega⟩
    have e := ih (i + 1) m (by omega) (by omega)
    rw [bs_step] at e
    rw [f_X11_same_L4, R_n hs hw, b_s, if_neg (nI_ge (by omega) (by omega)), R_isSame (by omega) (by omega) (hx p hp) (hx i (by omega)) (QOK_len (ok p hp).1) (QOK_len (ok i (by omega)).1), b_s, sameB_if, nI_1]
    by_cases h : sameB c n p i = true
    · rw [if_pos h, if_neg (by decide), b_s]
      rw [if_pos h] at e
      exact e
    · rw [if_neg h, if_pos rfl, b_s, zor0]
      rw [if_neg h] at e
      exact e
theorem R_same (hw : WF c n) (hs : Sw c (M 32) 0) (hx : CoatsR c n M) {p : Nat} (hp : p < n) : f_X11_same M (nI p) = some (bs (sameB c n p) n) := by
  have h16 := hw.1
  unfold f_X11_same
  rw [show f_X11_same_L4 FU M (nI p) (0 : Int32) (0 : Int32) = _ from R_same_L4 hw hs hx hp n 0 FU (by omega) (by unfold FU; omega), b_s]
theorem X1_unlike_L6 (hw : WF c n) (hx : CoatsX c n M) : ∀ (k i m : Nat) (x : Int32), i + k = n → k < m → (∀ j, j < n → (zbt x j = true ↔ ∃ r, r < i ∧ sameB c n r j = true)) → f_X1_unlikeCoats_L6 m M x (nI (ucn c n i)) (nI i) = some (nI (ucn c n n)) := by
  have h16 := hw.1
  intro k
  induction k with
  | zero =>
    intro i m x hi hm hb
    obtain ⟨m, rfl⟩ : ∃ m', m = m' + 1 := ⟨m - 1, by omega⟩
    rw [f_X1_unlikeCoats_L6, hx.1, if_pos (nI_le (by omega) (by omega)), show i = n by omega]
  | succ k ih =>
    intro i m x hi hm hb
    obtain ⟨m, rfl⟩ : ∃ m', m = m' + 1 := ⟨m - 1, by omega⟩
    rw [f_X1_unlikeCoats_L6, hx.1, if_neg (nI_ge (by omega) (by omega)), X1_isIn x (by omega), b_s, X1_sameAs hw hx (show i < n by omega), b_s]
    by_cases h : zbt x i = true
    · rw [if_pos h, if_neg (by decide), b_s]
      have he := (hb i (by omega)).mp h
      have e := ih (i + 1) m x (by omega) (by omega) (fun j hj => by
        rw [hb j hj]
        constructor
        · rintro ⟨r, a, b⟩; exact ⟨r, by omega, b⟩
        · rintro ⟨r, a, b⟩
          rcases Nat.lt_or_ge r i with q | q
          · exact ⟨r, q, b⟩
          · obtain rfl : r = i := by omega
            obtain ⟨r', a', b'⟩ := he
            exact ⟨r', a', sameB_t.mpr ((sameB_t.mp b').trans (sameB_t.mp b))⟩)
      rw [nI_1]
      have eu : ucn c n (i + 1) = ucn c n i := by
        show ucn c n i + _ = _
        rw [if_pos he]; rfl
      rw [eu] at e
      exact e
    · rw [if_neg h, if_pos rfl, b_s]
      have he : ¬ ∃ r, r < i ∧ sameB c n r i = true := fun q => h ((hb i (by omega)).mpr q)
      have e := ih (i + 1) m (x ||| bs (sameB c n i) n) (by omega) (by omega) (fun j hj => by
        rw [zbt_or, zbt_bs _ _ (by omega) _ (by omega), Bool.or_eq_true, hb j hj]
        constructor
        · rintro (⟨r, a, b⟩ | b)
          · exact ⟨r, by omega, b⟩
          · simp at b
            exact ⟨i, by omega, b.2⟩
        · rintro ⟨r, a, b⟩
          rcases Nat.lt_or_ge r i with q | q
          · exact Or.inl ⟨r, q, b⟩
          · obtain rfl : r = i := by omega
            exact Or.inr (by simp [hj, b]))
      have eu : ucn c n (i + 1) = ucn c n i + 1 := by
        show ucn c n i + _ = _
        rw [if_neg he]
      rw [eu, ← nI_1, ← nI_1] at e
      exact e
theorem X1_unlike (hw : WF c n) (hx : CoatsX c n M) : f_X1_unlikeCoats M = some (nI (ucn c n n)) := by
  have h16 := hw.1
  unfold f_X1_unlikeCoats
  rw [show f_X1_unlikeCoats_L6 FU M (0 : Int32) (0 : Int32) (0 : Int32) = _ from X1_unlike_L6 hw hx n 0 FU 0 (by omega) (by unfold FU; omega) (fun j hj => by
    rw [zbt_0]
    constructor
    · intro h; cases h
    · rintro ⟨r, a, -⟩; omega), b_s]
theorem zbt_mask : ∀ p, p < 17 → ∀ i, i < 32 → zbt (((1 : Int32) <<< (nI p &&& 31)) - 1) i = decide (i < p) := by decide +kernel
theorem R_coats_L8 (hw : WF c n) (hs : Sw c (M 32) 0) (hx : CoatsR c n M) : ∀ (k i m : Nat), i + k = n → k < m → f_X11_coats_L8 m M (nI (ucn c n i)) (nI i) = some (nI (ucn c n n)) := by
  have h16 := hw.1
  intro k
  induction k with
  | zero =>
    intro i m hi hm
    obtain ⟨m, rfl⟩ : ∃ m', m = m' + 1 := ⟨m - 1, by omega⟩
    rw [f_X11_coats_L8, R_n hs hw, b_s, if_pos (nI_le (by omega) (by omega)), show i = n by omega]
  | succ k ih =>
    intro i m hi hm
    obtain ⟨m, rfl⟩ : ∃ m', m = m' + 1 := ⟨m - 1, by omega⟩
    have e := ih (i + 1) m (by omega) (by omega)
    rw [f_X11_coats_L8, R_n hs hw, b_s, if_neg (nI_ge (by omega) (by omega)), R_same hw hs hx (show i < n by omega), b_s, nI_1]
    by_cases h : ∃ r, r < i ∧ sameB c n r i = true
    · have hz : ¬ (bs (sameB c n i) n &&& (((1 : Int32) <<< (nI i &&& 31)) - 1)) = 0 := fun z => by
        obtain ⟨r, a, b⟩ := h
        have h1 := congrArg (fun y => zbt y r) z
        rw [zbt_and, zbt_bs _ _ (by omega) _ (by omega), zbt_mask i (by omega) r (by omega), zbt_0] at h1
        have h2 : sameB c n i r = true := sameB_t.mpr (sameB_t.mp b).symm
        simp [h2, a] at h1
        omega
      rw [if_neg hz, b_s]
      have eu : ucn c n (i + 1) = ucn c n i := by
        show ucn c n i + _ = _
        rw [if_pos h]; rfl
      rw [eu] at e
      rw [show nI (ucn c n i) + (0 : Int32) = nI (ucn c n i) from nI_add _ 0]
      exact e
    · have hz : (bs (sameB c n i) n &&& (((1 : Int32) <<< (nI i &&& 31)) - 1)) = 0 := by
        apply zbt_ext
        intro j hj
        rw [zbt_and, zbt_bs _ _ (by omega) _ hj, zbt_mask i (by omega) j hj, zbt_0]
        by_cases a : j < i
        · have : ¬ sameB c n i j = true := fun b => h ⟨j, a, sameB_t.mpr (sameB_t.mp b).symm⟩
          simp [this]
        · simp [a]
      rw [if_pos hz, b_s]
      have eu : ucn c n (i + 1) = ucn c n i + 1 := by
        show ucn c n i + _ = _
        rw [if_neg h]
      rw [eu, ← nI_1] at e
      exact e
theorem R_coats (hw : WF c n) (hs : Sw c (M 32) 0) : ∃ M1, f_X11_coats M = some (nI (ucn c n n), M1) ∧ ∀ q, q ≠ 38 → q ≠ 39 → q ≠ 40 → M1 q = M q := by
  have h16 := hw.1
  obtain ⟨M1, e1, h1, h2⟩ := R_lays hw hs
  have hs1 : Sw c (M1 32) 0 := by rw [h2 32 (by decide) (by decide) (by decide)]; exact hs
  refine ⟨M1, ?_, h2⟩
  unfold f_X11_coats
  rw [e1, b_s, show f_X11_coats_L8 FU M1 (0 : Int32) (0 : Int32) = _ from R_coats_L8 hw hs1 h1 n 0 FU (by omega) (by unfold FU; omega), b_s]
end Same2
