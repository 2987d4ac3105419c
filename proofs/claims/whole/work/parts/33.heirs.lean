section Heirs2
variable {c : Nat → Int32} {M : MM} {n : Nat}
theorem bs_step (f : Nat → Bool) (i : Nat) : bs f (i + 1) = if f i = true then bs f i ||| ((1 : Int32) <<< (nI i &&& 31)) else bs f i := rfl
theorem X1_isIn (x : Int32) {p : Nat} (hp : p < 31) : f_X1_isIn M x (nI p) = some (if zbt x p = true then 1 else 0) := by
  unfold f_X1_isIn
  by_cases h : zbt x p = true
  · rw [if_pos ((z_isin x p hp).mpr h), if_pos h, b_s, rz1]
  · rw [if_neg (fun q => h ((z_isin x p hp).mp q)), if_neg h, b_s, rz0]
theorem X1_heirsOf_L4 (hc : Rc c M) (hw : WF c n) : ∀ (k i m : Nat) (x : Int32), i + k = n → k < m → (∀ j, j < 31 → (zbt x j = true ↔ ∃ q, q < i ∧ c (13 + 8 * q) = 0 ∧ c (13 + 8 * q + 2) = nI j)) → ∃ y, f_X1_heirsOf_L4 m M x (nI i) = some y ∧ ∀ j, j < 31 → (zbt y j = true ↔ ∃ q, q < n ∧ c (13 + 8 * q) = 0 ∧ c (13 + 8 * q + 2) = nI j) := by
  have h16 := hw.1
  intro k
  induction k with
  | zero =>
    intro i m x hi hm hx
    obtain ⟨m, rfl⟩ : ∃ m', m = m' + 1 := ⟨m - 1, by omega⟩
    refine ⟨x, ?_, ?_⟩
    · rw [f_X1_heirsOf_L4, X7_people hc hw, b_s, if_pos (nI_le (by omega) (by omega))]
    · have : i = n := by omega
      subst this
      exact hx
  | succ k ih =>
    intro i m x hi hm hx
    obtain ⟨m, rfl⟩ : ∃ m', m = m' + 1 := ⟨m - 1, by omega⟩
    rw [f_X1_heirsOf_L4, X7_people hc hw, b_s, if_neg (nI_ge (by omega) (by omega)), X7_f2 hc hw (by omega), b_s, X7_isMan hc hw (by omega), b_s, nI_1]
    have keep : (¬ (c (13 + 8 * i) = 0 ∧ c (13 + 8 * i + 2) ≠ -1)) → ∀ j, j < 31 → (zbt x j = true ↔ ∃ q, q < i + 1 ∧ c (13 + 8 * q) = 0 ∧ c (13 + 8 * q + 2) = nI j) := by
      intro hno j hj
      rw [hx j hj]
      constructor
      · rintro ⟨q, h1, h2⟩
        exact ⟨q, by omega, h2⟩
      · rintro ⟨q, h1, h2, h3⟩
        rcases Nat.lt_or_ge q i with h | h
        · exact ⟨q, h, h2, h3⟩
        · have : q = i := by omega
          subst this
          exact absurd ⟨h2, by rw [h3]; exact nI_ne_m1 (by omega)⟩ hno
    by_cases h2 : c (13 + 8 * i + 2) = -1
    · rw [if_pos h2, b_s]
      exact ih (i + 1) m x (by omega) (by omega) (keep (fun q => q.2 h2))
    · rw [if_neg h2]
      by_cases h1 : c (13 + 8 * i) = 0
      · rw [if_pos h1, if_neg (by decide), b_s]
        obtain ⟨f, hf, ef⟩ := (hw.2.2.2.2 i (by omega)).2.2.1.resolve_left h2
        rw [ef]
        refine ih (i + 1) m _ (by omega) (by omega) ?_
        intro j hj
        rw [zbt_or, zbt_1 f (by omega) j (by omega), Bool.or_eq_true, hx j hj, decide_eq_true_eq]
        constructor
        · rintro (⟨q, a, b⟩ | rfl)
          · exact ⟨q, by omega, b⟩
          · exact ⟨i, by omega, h1, ef⟩
        · rintro ⟨q, a, b, d⟩
          rcases Nat.lt_or_ge q i with h | h
          · exact Or.inl ⟨q, h, b, d⟩
          · have : q = i := by omega
            subst this
            exact Or.inr (nI_inj (by omega) (by omega) (d.symm.trans ef))
      · rw [if_neg h1, if_pos rfl, b_s]
        exact ih (i + 1) m x (by omega) (by omega) (keep (fun q => h1 q.1))
theorem X1_heirsOf_L48 (hc : Rc c M) (hw : WF c n) {x : Int32} (hx : ∀ j, j < 31 → (zbt x j = true ↔ ∃ q, q < n ∧ c (13 + 8 * q) = 0 ∧ c (13 + 8 * q + 2) = nI j)) : ∀ (k i m : Nat), i + k = n → k < m → f_X1_heirsOf_L48 m M x (bs (heirB c n) i) (nI i) = some (bs (heirB c n) n) := by
  have h16 := hw.1
  intro k
  induction k with
  | zero =>
    intro i m hi hm
    obtain ⟨m, rfl⟩ : ∃ m', m = m' + 1 := ⟨m - 1, by omega⟩
    rw [f_X1_heirsOf_L48, X7_people hc hw, b_s, if_pos (nI_le (by omega) (by omega)), show i = n by omega]
  | succ k ih =>
    intro i m hi hm
    obtain ⟨m, rfl⟩ : ∃ m', m = m' + 1 := ⟨m - 1, by omega⟩
    have e := ih (i + 1) m (by omega) (by omega)
    rw [bs_step] at e
    rw [f_X1_heirsOf_L48, X7_people hc hw, b_s, if_neg (nI_ge (by omega) (by omega)), X7_f2 hc hw (by omega), b_s, X7_isWoman hc hw (by omega), b_s, nI_1]
    by_cases h2 : c (13 + 8 * i + 2) = -1
    · rw [if_pos h2, b_s]
      rw [if_neg (fun h => (heirB_t.mp h).2.1 h2)] at e
      exact e
    · rw [if_neg h2]
      by_cases h1 : c (13 + 8 * i) = 1
      · rw [if_pos h1, if_neg (by decide)]
        obtain ⟨f, hf, ef⟩ := (hw.2.2.2.2 i (by omega)).2.2.1.resolve_left h2
        rw [ef, X1_isIn x (by omega), b_s]
        by_cases h3 : zbt x f = true
        · rw [if_pos h3, if_neg (by decide), b_s]
          rw [if_neg (fun h => by
            obtain ⟨q, a, b, d⟩ := (hx f (by omega)).mp h3
            rcases (heirB_t.mp h).2.2 q a with z | z
            · rw [z] at b; exact absurd b (by decide)
            · exact z (d.trans ef.symm))] at e
          exact e
        · rw [if_neg h3, if_pos rfl, b_s]
          rw [if_pos (heirB_t.mpr ⟨h1, h2, fun q hq => by
            rcases (hw.2.2.2.2 q hq).1 with z | z
            · refine Or.inr (fun d => h3 ((hx f (by omega)).mpr ⟨q, hq, z, d.trans ef⟩))
            · exact Or.inl z⟩)] at e
          exact e
      · rw [if_neg h1, if_pos rfl, b_s]
        rw [if_neg (fun h => h1 (heirB_t.mp h).1)] at e
        exact e
theorem X1_heirsOf (hc : Rc c M) (hw : WF c n) : f_X1_heirsOf M = some (bs (heirB c n) n) := by
  have h16 := hw.1
  unfold f_X1_heirsOf
  obtain ⟨y, e1, e2⟩ := X1_heirsOf_L4 hc hw n 0 FU 0 (by omega) (by unfold FU; omega) (fun j hj => by
    rw [zbt_0]
    constructor
    · intro h; cases h
    · rintro ⟨q, h, -⟩; omega)
  rw [show f_X1_heirsOf_L4 FU M (0 : Int32) (0 : Int32) = some y from e1, b_s, show f_X1_heirsOf_L48 FU M y (0 : Int32) (0 : Int32) = _ from X1_heirsOf_L48 hc hw e2 n 0 FU (by omega) (by unfold FU; omega), b_s]
theorem R_heirs_L4 (hs : Sw c (M 32) 0) (hw : WF c n) : ∀ (k i m : Nat), i + k = n → k < m → f_X11_heirs_L4 m M (bs (heirB c n) i) (nI i) = some (bs (heirB c n) n) := by
  have h16 := hw.1
  intro k
  induction k with
  | zero =>
    intro i m hi hm
    obtain ⟨m, rfl⟩ : ∃ m', m = m' + 1 := ⟨m - 1, by omega⟩
    rw [f_X11_heirs_L4, R_n hs hw, b_s, if_pos (nI_le (by omega) (by omega)), show i = n by omega]
  | succ k ih =>
    intro i m hi hm
    obtain ⟨m, rfl⟩ : ∃ m', m = m' + 1 := ⟨m - 1, by omega⟩
    have e := ih (i + 1) m (by omega) (by omega)
    rw [bs_step] at e
    rw [f_X11_heirs_L4, R_n hs hw, b_s, if_neg (nI_ge (by omega) (by omega)), R_isHeir hs hw (by omega), b_s, nI_1]
    by_cases h : heirB c n i = true
    · rw [if_pos h, if_neg (by decide), b_s]
      rw [if_pos h] at e
      exact e
    · rw [if_neg h, if_pos rfl, b_s, zor0]
      rw [if_neg h] at e
      exact e
theorem R_heirs (hs : Sw c (M 32) 0) (hw : WF c n) : f_X11_heirs M = some (bs (heirB c n) n) := by
  have h16 := hw.1
  unfold f_X11_heirs
  rw [show f_X11_heirs_L4 FU M (0 : Int32) (0 : Int32) = _ from R_heirs_L4 hs hw n 0 FU (by omega) (by unfold FU; omega), b_s]
theorem R_children_L4 (hs : Sw c (M 32) 0) (hw : WF c n) (x : Int32) : ∀ (k i m : Nat), i + k = n → k < m → f_X11_children_L4 m M x (bs (fun q => decide (c (13 + 8 * q + 2) = x ∨ c (13 + 8 * q + 3) = x)) i) (nI i) = some (bs (fun q => decide (c (13 + 8 * q + 2) = x ∨ c (13 + 8 * q + 3) = x)) n) := by
  have h16 := hw.1
  intro k
  induction k with
  | zero =>
    intro i m hi hm
    obtain ⟨m, rfl⟩ : ∃ m', m = m' + 1 := ⟨m - 1, by omega⟩
    rw [f_X11_children_L4, R_n hs hw, b_s, if_pos (nI_le (by omega) (by omega)), show i = n by omega]
  | succ k ih =>
    intro i m hi hm
    obtain ⟨m, rfl⟩ : ∃ m', m = m' + 1 := ⟨m - 1, by omega⟩
    have e := ih (i + 1) m (by omega) (by omega)
    rw [bs_step] at e
    rw [f_X11_children_L4, R_n hs hw, b_s, if_neg (nI_ge (by omega) (by omega)), R_fa hs (by omega), b_s, R_mo hs (by omega), b_s, nI_1]
    by_cases h2 : c (13 + 8 * i + 2) = x
    · rw [if_pos h2, b_s]
      rw [if_pos (by simp [h2])] at e
      exact e
    · rw [if_neg h2]
      by_cases h3 : c (13 + 8 * i + 3) = x
      · rw [if_pos h3, b_s]
        rw [if_pos (by simp [h3])] at e
        exact e
      · rw [if_neg h3, b_s, zor0]
        rw [if_neg (by simp [h2, h3])] at e
        exact e
theorem R_children (hs : Sw c (M 32) 0) (hw : WF c n) (x : Int32) : f_X11_children M x = some (bs (fun q => decide (c (13 + 8 * q + 2) = x ∨ c (13 + 8 * q + 3) = x)) n) := by
  have h16 := hw.1
  unfold f_X11_children
  rw [show f_X11_children_L4 FU M x (0 : Int32) (0 : Int32) = _ from R_children_L4 hs hw x n 0 FU (by omega) (by unfold FU; omega), b_s]
end Heirs2
