theorem ite_iff {α : Type} {p q : Prop} {dp : Decidable p} {dq : Decidable q} (h : p ↔ q) {a b : α} : @ite α p dp a b = @ite α q dq a b := by
  by_cases hp : p
  · rw [if_pos hp, if_pos (h.mp hp)]
  · rw [if_neg hp, if_neg (fun q => hp (h.mpr q))]
/-! the reference's state: the same 141 numbers in its own order, in blocks -/
def rix (i : Nat) : Nat := if i < 13 then i else if (i - 13) % 8 = 0 then 13 + (i - 13) / 8 else if (i - 13) % 8 = 1 then 29 + (i - 13) / 8 else if (i - 13) % 8 = 2 then 45 + (i - 13) / 8 else if (i - 13) % 8 = 3 then 61 + (i - 13) / 8 else if (i - 13) % 8 = 4 then 77 + 2 * ((i - 13) / 8) else if (i - 13) % 8 = 5 then 77 + 2 * ((i - 13) / 8) + 1 else if (i - 13) % 8 = 6 then 109 + 2 * ((i - 13) / 8) else 109 + 2 * ((i - 13) / 8) + 1
theorem rix_lt : ∀ i, i < 141 → rix i < 141 := by decide +kernel
theorem rix_inj1 : ∀ i, i < 141 → ∀ j, j < 141 → rix i = rix j → i = j := by decide +kernel
theorem rix_s {i : Nat} (h : i < 13) : rix i = i := if_pos h
theorem rix_0 : ∀ p, p < 16 → rix (13 + 8 * p) = 13 + p := by decide +kernel
theorem rix_1 : ∀ p, p < 16 → rix (13 + 8 * p + 1) = 29 + p := by decide +kernel
theorem rix_2 : ∀ p, p < 16 → rix (13 + 8 * p + 2) = 45 + p := by decide +kernel
theorem rix_3 : ∀ p, p < 16 → rix (13 + 8 * p + 3) = 61 + p := by decide +kernel
theorem rix_4 : ∀ p, p < 16 → rix (13 + 8 * p + 4) = 77 + 2 * p := by decide +kernel
theorem rix_5 : ∀ p, p < 16 → rix (13 + 8 * p + 5) = 77 + 2 * p + 1 := by decide +kernel
theorem rix_6 : ∀ p, p < 16 → rix (13 + 8 * p + 6) = 109 + 2 * p := by decide +kernel
theorem rix_7 : ∀ p, p < 16 → rix (13 + 8 * p + 7) = 109 + 2 * p + 1 := by decide +kernel
def Sw (c w : Nat → Int32) (b : Nat) : Prop := ∀ i, i < 141 → w (141 * b + rix i) = c i
theorem Sw_upd {c w : Nat → Int32} (h : Sw c w 0) {j : Nat} (hj : j < 141) (v : Int32) : Sw (upd c j v) (upd w (rix j) v) 0 := by
  intro i hi
  have h1 := h i hi
  rw [Nat.mul_zero, Nat.zero_add] at h1 ⊢
  by_cases e : i = j
  · subst e; rw [upd_s, upd_s]
  · rw [upd_n _ _ (fun q => e (rix_inj1 i hi j hj q)), upd_n _ _ e, h1]
theorem Sw_far {c w : Nat → Int32} {b j : Nat} (h : Sw c w b) (hb : 1 ≤ b) (hj : j < 141) (v : Int32) : Sw c (upd w j v) b := by
  intro i hi
  rw [upd_n _ _ (by omega)]
  exact h i hi
section R0
variable {c : Nat → Int32} {M : MM} {n : Nat}
theorem ldR (hs : Sw c (M 32) 0) {i j : Nat} (hi : i < 141) (e : rix i = j) : z_ld M 32 3243 (nI j) = some (c i) := by
  have h1 := rix_lt i hi
  rw [ld_ok (by omega), ← hs i hi, ← e]
  simp
theorem R_n (hs : Sw c (M 32) 0) (hw : WF c n) : z_ld M 32 3243 (0 : Int32) = some (nI n) := by
  rw [← hw.2.1]
  exact ldR hs (i := 0) (by decide) (by decide)
theorem R_rule (hs : Sw c (M 32) 0) : z_ld M 32 3243 (1 : Int32) = some (c 1) := ldR hs (i := 1) (j := 1) (by decide) (by decide)
theorem R_len (hs : Sw c (M 32) 0) : z_ld M 32 3243 (2 : Int32) = some (c 2) := ldR hs (i := 2) (j := 2) (by decide) (by decide)
theorem R_sign (hs : Sw c (M 32) 0) {k : Nat} (hk : k < 10) : z_ld M 32 3243 ((3 : Int32) + nI k) = some (c (3 + k)) := by
  rw [show (3 : Int32) + nI k = nI (3 + k) from nI_add 3 k]
  exact ldR hs (by omega) (rix_s (by omega))
theorem R_sex (hs : Sw c (M 32) 0) {p : Nat} (hp : p < 16) : z_ld M 32 3243 ((13 : Int32) + nI p) = some (c (13 + 8 * p)) := by
  rw [show (13 : Int32) + nI p = nI (13 + p) from nI_add 13 p]
  exact ldR hs (by omega) (rix_0 p hp)
theorem R_arms (hs : Sw c (M 32) 0) {p : Nat} (hp : p < 16) : z_ld M 32 3243 ((29 : Int32) + nI p) = some (c (13 + 8 * p + 1)) := by
  rw [show (29 : Int32) + nI p = nI (29 + p) from nI_add 29 p]
  exact ldR hs (by omega) (rix_1 p hp)
theorem R_fa (hs : Sw c (M 32) 0) {p : Nat} (hp : p < 16) : z_ld M 32 3243 ((45 : Int32) + nI p) = some (c (13 + 8 * p + 2)) := by
  rw [show (45 : Int32) + nI p = nI (45 + p) from nI_add 45 p]
  exact ldR hs (by omega) (rix_2 p hp)
theorem R_mo (hs : Sw c (M 32) 0) {p : Nat} (hp : p < 16) : z_ld M 32 3243 ((61 : Int32) + nI p) = some (c (13 + 8 * p + 3)) := by
  rw [show (61 : Int32) + nI p = nI (61 + p) from nI_add 61 p]
  exact ldR hs (by omega) (rix_3 p hp)
theorem ix2 (a p : Nat) : nI a + (2 : Int32) * nI p = nI (a + 2 * p) := by
  rw [show (2 : Int32) * nI p = nI (2 * p) from pk_mul 2 p, nI_add]
theorem R_b0 (hs : Sw c (M 32) 0) {p : Nat} (hp : p < 16) : z_ld M 32 3243 ((77 : Int32) + (2 : Int32) * nI p) = some (c (13 + 8 * p + 4)) := by
  rw [show (77 : Int32) + (2 : Int32) * nI p = nI (77 + 2 * p) from ix2 77 p]
  exact ldR hs (by omega) (rix_4 p hp)
theorem R_b1 (hs : Sw c (M 32) 0) {p : Nat} (hp : p < 16) : z_ld M 32 3243 (((77 : Int32) + (2 : Int32) * nI p) + (1 : Int32)) = some (c (13 + 8 * p + 5)) := by
  rw [show (77 : Int32) + (2 : Int32) * nI p = nI (77 + 2 * p) from ix2 77 p, nI_1]
  exact ldR hs (by omega) (rix_5 p hp)
theorem R_d0 (hs : Sw c (M 32) 0) {p : Nat} (hp : p < 16) : z_ld M 32 3243 ((109 : Int32) + (2 : Int32) * nI p) = some (c (13 + 8 * p + 6)) := by
  rw [show (109 : Int32) + (2 : Int32) * nI p = nI (109 + 2 * p) from ix2 109 p]
  exact ldR hs (by omega) (rix_6 p hp)
theorem R_d1 (hs : Sw c (M 32) 0) {p : Nat} (hp : p < 16) : z_ld M 32 3243 (((109 : Int32) + (2 : Int32) * nI p) + (1 : Int32)) = some (c (13 + 8 * p + 7)) := by
  rw [show (109 : Int32) + (2 : Int32) * nI p = nI (109 + 2 * p) from ix2 109 p, nI_1]
  exact ldR hs (by omega) (rix_7 p hp)
theorem lgc_lt (x y : Int64) : lg_cmp x y < 0 ↔ x.toInt < y.toInt := by
  unfold lg_cmp
  rw [← Int64.lt_iff_toInt_lt]
  by_cases h1 : x > y
  · rw [if_pos h1]
    have h2 : ¬ x < y := by
      rw [Int64.lt_iff_toInt_lt]; have := Int64.lt_iff_toInt_lt.mp h1; omega
    simp only [h2, iff_false]
    decide
  · rw [if_neg h1]
    by_cases h2 : x = y
    · rw [if_pos h2]
      have h3 : ¬ x < y := by rw [h2, Int64.lt_iff_toInt_lt]; omega
      simp only [h3, iff_false]
      decide
    · rw [if_neg h2]
      have h3 : x < y := by
        have a : ¬ y.toInt < x.toInt := fun h => h1 (Int64.lt_iff_toInt_lt.mpr h)
        have b : x.toInt ≠ y.toInt := fun e => h2 (Int64.toInt_inj.mp e)
        rw [Int64.lt_iff_toInt_lt]; omega
      simp only [h3, iff_true]
      decide
theorem lgc_gt (x y : Int64) : 0 < lg_cmp x y ↔ y.toInt < x.toInt := by
  unfold lg_cmp
  by_cases h1 : x > y
  · rw [if_pos h1]
    have h2 : y.toInt < x.toInt := Int64.lt_iff_toInt_lt.mp h1
    simp only [h2, iff_true]
    decide
  · rw [if_neg h1]
    have h2 : ¬ y.toInt < x.toInt := fun h => h1 (Int64.lt_iff_toInt_lt.mpr h)
    simp only [h2, iff_false]
    by_cases h3 : x = y
    · rw [if_pos h3]; decide
    · rw [if_neg h3]; decide
theorem R_in (M : MM) (x y z : Int64) : f_X11_in M x y z = some (if y.toInt ≤ x.toInt ∧ x.toInt ≤ z.toInt then 1 else 0) := by
  unfold f_X11_in
  by_cases h1 : lg_cmp x y < 0
  · rw [if_pos h1, b_s, rz0, if_neg (by have := (lgc_lt x y).mp h1; omega)]
  · rw [if_neg h1]
    have a : ¬ x.toInt < y.toInt := fun h => h1 ((lgc_lt x y).mpr h)
    by_cases h2 : 0 < lg_cmp x z
    · rw [if_pos h2, b_s, rz0, if_neg (by have := (lgc_gt x z).mp h2; omega)]
    · have b : ¬ z.toInt < x.toInt := fun h => h2 ((lgc_gt x z).mpr h)
      rw [if_neg h2, b_s, rz1, if_pos (by omega)]
/-- 'in' over ints, its bounds as numbers -/
theorem R_ini (M : MM) (x : Int32) (y z : Int64) {a b : Int} (ha : y.toInt = a) (hb : z.toInt = b) : f_X11_in M x.toInt64 y z = some (if a ≤ x.toInt ∧ x.toInt ≤ b then 1 else 0) := by
  rw [R_in, Int32.toInt_toInt64, ha, hb]
theorem R_isOne_in (hs : Sw c (M 32) 0) (hw : WF c n) {p : Nat} (hp : p < n) : f_X11_isOne M (nI p) = some 1 := by
  have h16 := hw.1
  unfold f_X11_isOne
  rw [R_n hs hw, b_s, R_ini M (nI p) _ _ (a := 0) (b := (n : Int) - 1) (by decide) (by
    rw [Int32.toInt_toInt64, ti_sub (by rw [ti_n (by omega)]; show _ ≤ (n : Int) - 1; omega) (by rw [ti_n (by omega)]; show (n : Int) - 1 < _; omega), ti_n (by omega)]; rfl), b_s, ti_n (by omega), if_pos (by omega), rz1]
theorem R_isOne_out (hs : Sw c (M 32) 0) (hw : WF c n) {x : Int32} (hp : ¬ ∃ p, p < n ∧ x = nI p) : f_X11_isOne M x = some 0 := by
  have h16 := hw.1
  unfold f_X11_isOne
  rw [R_n hs hw, b_s, R_ini M x _ _ (a := 0) (b := (n : Int) - 1) (by decide) (by
    rw [Int32.toInt_toInt64, ti_sub (by rw [ti_n (by omega)]; show _ ≤ (n : Int) - 1; omega) (by rw [ti_n (by omega)]; show (n : Int) - 1 < _; omega), ti_n (by omega)]; rfl), b_s, if_neg ?_, rz0]
  rintro ⟨h1, h2⟩
  apply hp
  refine ⟨x.toInt.toNat, by omega, ti_eq.mpr ?_⟩
  rw [ti_n (by omega)]
  omega
theorem R_isMan (hs : Sw c (M 32) 0) (hw : WF c n) {p : Nat} (hp : p < n) : f_X11_isMan M (nI p) = some (if c (13 + 8 * p) = 0 then 1 else 0) := by
  have h16 := hw.1
  unfold f_X11_isMan
  rw [R_isOne_in hs hw hp, b_s, if_neg (by decide), R_sex hs (by omega), b_s]
  by_cases h : c (13 + 8 * p) = 0
  · rw [if_pos h, if_pos h, b_s, rz1]
  · rw [if_neg h, if_neg h, b_s, rz0]
theorem R_isMan_out (hs : Sw c (M 32) 0) (hw : WF c n) {x : Int32} (hp : ¬ ∃ p, p < n ∧ x = nI p) : f_X11_isMan M x = some 0 := by
  unfold f_X11_isMan
  rw [R_isOne_out hs hw hp, b_s, if_pos rfl, b_s, rz0]
theorem R_isWoman (hs : Sw c (M 32) 0) (hw : WF c n) {p : Nat} (hp : p < n) : f_X11_isWoman M (nI p) = some (if c (13 + 8 * p) = 1 then 1 else 0) := by
  have h16 := hw.1
  unfold f_X11_isWoman
  rw [R_isOne_in hs hw hp, b_s, if_neg (by decide), R_sex hs (by omega), b_s]
  by_cases h : c (13 + 8 * p) = 1
  · rw [if_pos h, if_pos h, b_s, rz1]
  · rw [if_neg h, if_neg h, b_s, rz0]
theorem R_isWoman_out (hs : Sw c (M 32) 0) (hw : WF c n) {x : Int32} (hp : ¬ ∃ p, p < n ∧ x = nI p) : f_X11_isWoman M x = some 0 := by
  unfold f_X11_isWoman
  rw [R_isOne_out hs hw hp, b_s, if_pos rfl, b_s, rz0]
end R0
/-! heirs -/
def heir (c : Nat → Int32) (n p : Nat) : Prop := c (13 + 8 * p) = 1 ∧ c (13 + 8 * p + 2) ≠ -1 ∧ ∀ q, q < n → c (13 + 8 * q) = 1 ∨ c (13 + 8 * q + 2) ≠ c (13 + 8 * p + 2)
theorem heir_dec (c : Nat → Int32) (n p : Nat) : Nonempty (Decidable (heir c n p)) := ⟨Classical.propDecidable _⟩
noncomputable def heirB (c : Nat → Int32) (n p : Nat) : Bool := @decide (heir c n p) (Classical.propDecidable _)
theorem heirB_t {c : Nat → Int32} {n p : Nat} : heirB c n p = true ↔ heir c n p := @decide_eq_true_iff _ (Classical.propDecidable _)
section Heirs
variable {c : Nat → Int32} {M : MM} {n : Nat}
theorem R_isHeir_L29 (hs : Sw c (M 32) 0) (hw : WF c n) {p : Nat} (hp : p < n) : ∀ (k i m : Nat), i + k = n → k < m → ∀ b : Int32, (b = 0 ∨ b = 1) → f_X11_isHeir_L29 m M (nI p) b (nI i) = some (@ite _ (b = 1 ∧ ∀ q, i ≤ q → q < n → c (13 + 8 * q) = 1 ∨ c (13 + 8 * q + 2) ≠ c (13 + 8 * p + 2)) (Classical.propDecidable _) 1 0) := by
  have h16 := hw.1
  intro k
  induction k with
  | zero =>
    intro i m hi hm b hb
    obtain ⟨m, rfl⟩ : ∃ m', m = m' + 1 := ⟨m - 1, by omega⟩
    rw [f_X11_isHeir_L29, R_n hs hw, b_s, if_pos (nI_le (by omega) (by omega))]
    rcases hb with rfl | rfl
    · rw [if_neg (by rintro ⟨h, -⟩; exact absurd h (by decide))]
    · rw [if_pos ⟨rfl, fun q h1 h2 => by omega⟩]
  | succ k ih =>
    intro i m hi hm b hb
    obtain ⟨m, rfl⟩ : ∃ m', m = m' + 1 := ⟨m - 1, by omega⟩
    rw [f_X11_isHeir_L29, R_n hs hw, b_s, if_neg (nI_ge (by omega) (by omega))]
    rcases hb with rfl | rfl
    · rw [if_pos rfl, if_neg (by rintro ⟨h, -⟩; exact absurd h (by decide))]
    · rw [if_neg (by decide), R_sex hs (by omega), b_s, R_fa hs (by omega), b_s, R_fa hs (by omega), b_s, nI_1]
      by_cases h1 : c (13 + 8 * i) = 1
      · rw [if_pos h1, b_s, ih (i + 1) m (by omega) (by omega) 1 (Or.inr rfl)]
        congr 1
        apply ite_iff
        constructor
        · rintro ⟨-, h⟩
          refine ⟨rfl, fun q a b => ?_⟩
          rcases Nat.eq_or_lt_of_le a with rfl | a
          · exact Or.inl h1
          · exact h q a b
        · rintro ⟨-, h⟩
          exact ⟨rfl, fun q a b => h q (by omega) b⟩
      · rw [if_neg h1]
        by_cases h2 : c (13 + 8 * i + 2) = c (13 + 8 * p + 2)
        · rw [if_pos h2, b_s, ih (i + 1) m (by omega) (by omega) 0 (Or.inl rfl), if_neg (by rintro ⟨h, -⟩; exact absurd h (by decide)), if_neg ?_]
          rintro ⟨-, h⟩
          rcases h i (Nat.le_refl i) (by omega) with h3 | h3
          · exact h1 h3
          · exact h3 h2
        · rw [if_neg h2, b_s, ih (i + 1) m (by omega) (by omega) 1 (Or.inr rfl)]
          congr 1
          apply ite_iff
          constructor
          · rintro ⟨-, h⟩
            refine ⟨rfl, fun q a b => ?_⟩
            rcases Nat.eq_or_lt_of_le a with rfl | a
            · exact Or.inr h2
            · exact h q a b
          · rintro ⟨-, h⟩
            exact ⟨rfl, fun q a b => h q (by omega) b⟩
theorem R_isHeir (hs : Sw c (M 32) 0) (hw : WF c n) {p : Nat} (hp : p < n) : f_X11_isHeir M (nI p) = some (if heirB c n p = true then 1 else 0) := by
  have h16 := hw.1
  unfold f_X11_isHeir
  rw [R_isWoman hs hw hp, b_s, R_fa hs (by omega), b_s]
  have go : ∀ b : Int32, (b = 0 ∨ b = 1) → (b = 1 ↔ c (13 + 8 * p) = 1 ∧ c (13 + 8 * p + 2) ≠ -1) → (f_X11_isHeir_L29 FU M (nI p) b (0 : Int32)).bind (fun w29 => z_rzp w29) = some (if heirB c n p = true then 1 else 0) := by
    intro b hb he
    rw [show f_X11_isHeir_L29 FU M (nI p) b (0 : Int32) = _ from R_isHeir_L29 hs hw hp n 0 FU (by omega) (by unfold FU; omega) b hb, b_s]
    by_cases h : heir c n p
    · rw [if_pos ⟨he.mpr ⟨h.1, h.2.1⟩, fun q _ b => h.2.2 q b⟩, if_pos (heirB_t.mpr h), rz1]
    · rw [if_neg (fun q => h ⟨(he.mp q.1).1, (he.mp q.1).2, fun r hr => q.2 r (Nat.zero_le r) hr⟩), if_neg (fun q => h (heirB_t.mp q)), rz0]
  by_cases h1 : c (13 + 8 * p) = 1
  · rw [if_pos h1, if_neg (by decide)]
    by_cases h2 : c (13 + 8 * p + 2) = -1
    · rw [if_pos h2, b_s]
      exact go 0 (Or.inl rfl) ⟨fun h => absurd h (by decide), fun h => absurd h2 h.2⟩
    · rw [if_neg h2, b_s]
      exact go 1 (Or.inr rfl) ⟨fun _ => ⟨h1, h2⟩, fun _ => rfl⟩
  · rw [if_neg h1, if_pos rfl, b_s]
    exact go 0 (Or.inl rfl) ⟨fun h => absurd h (by decide), fun h => absurd h.1 h1⟩
end Heirs
