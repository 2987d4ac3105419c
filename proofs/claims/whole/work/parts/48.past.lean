/-! the past: the class's ring and the law's pile; copies -/
theorem stf_ok (M : MM) (q j : Nat) (v : Int32) : z_stf M q j v = some (mst M q j v) := rfl
theorem cpy_ok {M : MM} {q0 n q1 m0 a b : Nat} (ha : a + 141 ≤ n) (hb : b + 141 ≤ m0) (hn : n < 100000) (hm : m0 < 100000) : z_cpy M q0 n (nI a) q1 m0 (nI b) (141 : Int32) = some (mcp M q1 (va_cpy (M q0) (M q1) a b 141)) := by
  unfold z_cpy
  have e : (141 : Int32).toNatClampNeg = 141 := by decide
  rw [nI_clamp (by omega), nI_clamp (by omega), e, if_pos ⟨nI_nlt0 (by omega), nI_nlt0 (by omega), by decide, ha, hb⟩]
theorem cpy_in {f g : Nat → Int32} {a b i : Nat} (h : i < 141) : va_cpy f g a b 141 (b + i) = f (a + i) := by
  unfold va_cpy
  rw [if_pos ⟨by omega, by omega⟩, show b + i - b = i by omega]
theorem cpy_out {f g : Nat → Int32} {a b i : Nat} (h : i < b ∨ b + 141 ≤ i) : va_cpy f g a b 141 i = g i := by
  unfold va_cpy
  rw [if_neg (fun x => by omega)]
theorem R_copy_L2 {M0 : MM} {a b : Nat} (ha : a + 141 ≤ 3243) (hb : b + 141 ≤ 3243) (hab : a + 141 ≤ b ∨ b + 141 ≤ a) : ∀ (j k m : Nat) (M : MM), k + j = 141 → j < m → (∀ q, q ≠ 32 → M q = M0 q) → (∀ i, M 32 i = if b ≤ i ∧ i < b + k then M0 32 (a + (i - b)) else M0 32 i) → ∃ M1, f_X11_copy_L2 m M (nI a) (nI b) (nI k) = some M1 ∧ (∀ q, q ≠ 32 → M1 q = M0 q) ∧ ∀ i, M1 32 i = va_cpy (M0 32) (M0 32) a b 141 i := by
  intro j
  induction j with
  | zero =>
    intro k m M hk hm h1 h2
    obtain ⟨m, rfl⟩ : ∃ m', m = m' + 1 := ⟨m - 1, by omega⟩
    obtain rfl : k = 141 := by omega
    rw [f_X11_copy_L2, if_pos (show (141 : Int32) ≤ nI 141 by decide)]
    exact ⟨M, rfl, h1, h2⟩
  | succ j ih =>
    intro k m M hk hm h1 h2
    obtain ⟨m, rfl⟩ : ∃ m', m = m' + 1 := ⟨m - 1, by omega⟩
    rw [f_X11_copy_L2, if_neg (show ¬ (141 : Int32) ≤ nI k from nI_ge (b := 141) (by omega) (by decide)), nI_add, ld_ok (by omega), b_s, nI_add, sto_ok (by omega), b_s, nI_1]
    refine ih (k + 1) m _ (by omega) (by omega) (fun q hq => (mst_n _ _ _ hq).trans (h1 q hq)) (fun i => ?_)
    by_cases e : i = b + k
    · subst e
      rw [mst_ss, h2, if_neg (fun x => by omega), if_pos ⟨by omega, by omega⟩, show b + k - b = k by omega]
    · rw [mst_sn _ _ _ e, h2]
      by_cases w : b ≤ i ∧ i < b + k
      · rw [if_pos w, if_pos ⟨w.1, by omega⟩]
      · rw [if_neg w, if_neg (fun x => w ⟨x.1, by omega⟩)]
theorem R_copy {M : MM} {a b : Nat} (ha : a + 141 ≤ 3243) (hb : b + 141 ≤ 3243) (hab : a + 141 ≤ b ∨ b + 141 ≤ a) : ∃ M1, f_X11_copy M (nI a) (nI b) = some M1 ∧ (∀ q, q ≠ 32 → M1 q = M q) ∧ ∀ i, M1 32 i = va_cpy (M 32) (M 32) a b 141 i := by
  obtain ⟨M1, e1, h⟩ := R_copy_L2 (M0 := M) ha hb hab 141 0 FU M (by omega) (by unfold FU; omega) (fun _ _ => rfl) (fun i => by rw [if_neg (fun x => by omega)])
  unfold f_X11_copy
  rw [show f_X11_copy_L2 FU M (nI a) (nI b) (0 : Int32) = some M1 from e1, b_s]
  exact ⟨M1, rfl, h⟩
theorem R_minds_L11 {M0 : MM} : ∀ (j k m : Nat) (M : MM), k + j = 2679 → j < m → (∀ q, q ≠ 32 → M q = M0 q) → (∀ i, M 32 i = if 423 ≤ i ∧ i < 423 + k then M0 32 (i + 141) else M0 32 i) → ∃ M1, f_X11_minds_L11 m M (nI k) = some M1 ∧ (∀ q, q ≠ 32 → M1 q = M0 q) ∧ ∀ i, M1 32 i = if 423 ≤ i ∧ i < 3102 then M0 32 (i + 141) else M0 32 i := by
  intro j
  induction j with
  | zero =>
    intro k m M hk hm h1 h2
    obtain ⟨m, rfl⟩ : ∃ m', m = m' + 1 := ⟨m - 1, by omega⟩
    obtain rfl : k = 2679 := by omega
    rw [f_X11_minds_L11, if_pos (show (2679 : Int32) ≤ nI 2679 by decide)]
    exact ⟨M, rfl, h1, h2⟩
  | succ j ih =>
    intro k m M hk hm h1 h2
    obtain ⟨m, rfl⟩ : ∃ m', m = m' + 1 := ⟨m - 1, by omega⟩
    rw [f_X11_minds_L11, if_neg (show ¬ (2679 : Int32) ≤ nI k from nI_ge (b := 2679) (by omega) (by decide)), show (423 : Int32) + nI k = nI (423 + k) from nI_add 423 k, show nI (423 + k) + (141 : Int32) = nI (423 + k + 141) from nI_add (423 + k) 141, ld_ok (by omega), b_s, sto_ok (by omega), b_s, nI_1]
    refine ih (k + 1) m _ (by omega) (by omega) (fun q hq => (mst_n _ _ _ hq).trans (h1 q hq)) (fun i => ?_)
    by_cases e : i = 423 + k
    · subst e
      rw [mst_ss, h2, if_neg (fun x => by omega), if_pos ⟨by omega, by omega⟩]
    · rw [mst_sn _ _ _ e, h2]
      by_cases w : 423 ≤ i ∧ i < 423 + k
      · rw [if_pos w, if_pos ⟨w.1, by omega⟩]
      · rw [if_neg w, if_neg (fun x => w ⟨x.1, by omega⟩)]
def push (c : Nat → Int32) (P : Nat → Nat → Int32) : Nat → Nat → Int32 := fun k => if k = 0 then c else P (k - 1)
theorem push_0 (c : Nat → Int32) (P : Nat → Nat → Int32) : push c P 0 = c := rfl
theorem push_s (c : Nat → Int32) (P : Nat → Nat → Int32) (k : Nat) : push c P (k + 1) = P k := rfl
def dn (d : Nat) : Nat := if d = 20 then 20 else d + 1
def PX (s d : Nat) (P : Nat → Nat → Int32) (M : MM) : Prop := M 25 0 = 20 ∧ M 7 1 = nI s ∧ M 7 2 = nI d ∧ ∀ k, k < d → ∀ i, i < 141 → M 29 (141 * ((s + 19 - k) % 20) + i) = P k i
def PR (d : Nat) (P : Nat → Nat → Int32) (M : MM) : Prop := M 31 3 = nI d ∧ ∀ k, k < d → Sw (P k) (M 32) (3 + (d - 1 - k))
def PW (d : Nat) (P : Nat → Nat → Int32) : Prop := d ≤ 20 ∧ ∀ k, k < d → ∃ m, WF (P k) m
theorem PW_push {c : Nat → Int32} {n d : Nat} {P : Nat → Nat → Int32} (hw : WF c n) (h : PW d P) : PW (dn d) (push c P) := by
  unfold dn
  refine ⟨by have := h.1; split <;> omega, fun k hk => ?_⟩
  cases k with
  | zero => exact ⟨n, hw⟩
  | succ k =>
    refine h.2 k ?_
    have := h.1
    split at hk <;> omega
theorem PX_fr {s d : Nat} {P : Nat → Nat → Int32} {M M1 : MM} (h : PX s d P M) (a : M1 25 = M 25) (b : M1 7 = M 7) (e : M1 29 = M 29) : PX s d P M1 := by
  unfold PX
  rw [a, b, e]; exact h
theorem Sw_fr {c w w1 : Nat → Int32} {b : Nat} (h : Sw c w b) (e : ∀ i, 141 * b ≤ i → i < 141 * b + 141 → w1 i = w i) : Sw c w1 b := fun i hi => by
  have := rix_lt i hi
  rw [e _ (by omega) (by omega)]; exact h i hi
theorem PR_fr {d : Nat} {P : Nat → Nat → Int32} {M M1 : MM} (h : PR d P M) (a : M1 31 3 = M 31 3) (e : ∀ i, 423 ≤ i → M1 32 i = M 32 i) : PR d P M1 := ⟨a.trans h.1, fun k hk => Sw_fr (h.2 k hk) (fun i h1 _ => e i (by omega))⟩
theorem rem_ok {a b : Nat} (ha : a < 2 ^ 31) (hb : b < 2 ^ 31) (h0 : 0 < b) : z_rem (nI a) (nI b) = some (nI (a % b)) := by
  unfold z_rem
  have hb0 : ¬ nI b = 0 := fun x => by
    have := nI_inj hb (by decide) (show nI b = nI 0 from x)
    omega
  rw [if_neg hb0]
  congr 1
  exact pk_rem ha h0 hb
theorem X5_remember {c : Nat → Int32} {M : MM} {s d : Nat} {P : Nat → Nat → Int32} (hc : Rc c M) (hs : s < 20) (hd : d ≤ 20) (h : PX s d P M) : ∃ M1, f_X5_remember M = some M1 ∧ (∀ q, q ≠ 7 → q ≠ 29 → M1 q = M q) ∧ PX ((s + 1) % 20) (dn d) (push c P) M1 := by
  obtain ⟨h1, h2, h3, h4⟩ := h
  have e0 : f_X6_lay 25 29 2820 M (nI s) = some (mcp M 29 (va_cpy (M 10) (M 29) 0 (s * 141) 141)) := by
    unfold f_X6_lay
    rw [if_neg (nI_nlt0 (by omega)), h1, if_neg (show ¬ (20 : Int32) ≤ nI s from nI_ge hs (by decide)), show nI s * (141 : Int32) = nI (s * 141) from pk_mul s 141]
    rw [show z_cpy M 10 141 (0 : Int32) 29 2820 (nI (s * 141)) (141 : Int32) = _ from cpy_ok (a := 0) (b := s * 141) (by omega) (by omega) (by decide) (by decide), b_s, b_s]
  unfold f_X5_remember
  rw [h2, e0, b_s, mcp_n _ _ (show 7 ≠ 29 by decide), h2, nI_1, show z_rem (nI (s + 1)) (20 : Int32) = some (nI ((s + 1) % 20)) from rem_ok (by omega) (by decide) (by decide), b_s, stf_ok, b_s, mst_sn _ _ _ (by decide), mcp_n _ _ (show 7 ≠ 29 by decide), h3, nI_1, stf_ok, b_s]
  refine ⟨_, rfl, fun q a b => by rw [mst_n _ _ _ a, mst_n _ _ _ a, mcp_n _ _ b], ?_⟩
  refine ⟨?_, ?_, ?_, fun k hk i hi => ?_⟩
  · rw [mst_n _ _ _ (by decide), mst_n _ _ _ (by decide), mcp_n _ _ (by decide)]; exact h1
  · rw [mst_sn _ _ _ (by decide), mst_ss]
  · rw [mst_ss]
    unfold dn
    by_cases q : d = 20
    · subst q; rw [if_pos rfl, if_pos (by decide)]; rfl
    · rw [if_neg q, if_neg (show ¬ (20 : Int32) < nI (d + 1) from fun x => by
        rw [ti_lt, ti_n (by omega)] at x
        have : (20 : Int32).toInt = 20 := by decide
        omega)]
  · rw [mst_n _ _ _ (by decide), mst_n _ _ _ (by decide), mcp_s]
    have hk20 : k < 20 := by unfold dn at hk; split at hk <;> omega
    cases k with
    | zero =>
      rw [show 141 * (((s + 1) % 20 + 19 - 0) % 20) + i = s * 141 + i by omega, cpy_in hi, Nat.zero_add, push_0]
      exact hc i hi
    | succ k =>
      have hkd : k < d := by unfold dn at hk; split at hk <;> omega
      have e1 : ((s + 1) % 20 + 19 - (k + 1)) % 20 = (s + 19 - k) % 20 := by omega
      have ne : (s + 19 - k) % 20 ≠ s := by omega
      rw [e1, cpy_out (by omega), push_s]
      exact h4 k hkd i hi
theorem R_minds {c : Nat → Int32} {M : MM} {d : Nat} {P : Nat → Nat → Int32} (hs : Sw c (M 32) 0) (hd : d ≤ 20) (h : PR d P M) : ∃ M1, f_X11_minds M = some M1 ∧ (∀ q, q ≠ 31 → q ≠ 32 → M1 q = M q) ∧ (∀ i, i ≠ 3 → M1 31 i = M 31 i) ∧ (∀ i, i < 423 → M1 32 i = M 32 i) ∧ PR (dn d) (push c P) M1 := by
  have T : ∀ (M : MM) (d : Nat) (P : Nat → Nat → Int32), d < 20 → Sw c (M 32) 0 → PR d P M → ∃ M1, f_X11_minds_T58 M = some M1 ∧ (∀ q, q ≠ 31 → q ≠ 32 → M1 q = M q) ∧ (∀ i, i ≠ 3 → M1 31 i = M 31 i) ∧ (∀ i, i < 423 → M1 32 i = M 32 i) ∧ PR (d + 1) (push c P) M1 := by
    intro M d P hd hs h
    unfold f_X11_minds_T58
    rw [h.1, show (141 : Int32) * nI d = nI (141 * d) from pk_mul 141 d, show (423 : Int32) + nI (141 * d) = nI (423 + 141 * d) from nI_add 423 _]
    obtain ⟨M1, e1, k1, k2⟩ := R_copy (M := M) (a := 0) (b := 423 + 141 * d) (by omega) (by omega) (by omega)
    rw [show f_X11_copy M (0 : Int32) (nI (423 + 141 * d)) = some M1 from e1, b_s, k1 31 (by decide), h.1, nI_1, stf_ok, b_s]
    refine ⟨_, rfl, fun q a b => by rw [mst_n _ _ _ a, k1 q b], fun i hi => by rw [mst_sn _ _ _ hi, k1 31 (by decide)], fun i hi => by rw [mst_n _ _ _ (by decide), k2, cpy_out (by omega)], mst_ss _ _ _ _, fun k hk => ?_⟩
    rw [mst_n _ _ _ (show 32 ≠ 31 by decide)]
    cases k with
    | zero =>
      intro i hi
      have hr := rix_lt i hi
      have := hs i hi
      rw [show 141 * 0 + rix i = 0 + rix i by omega] at this
      rw [k2, show 141 * (3 + (d + 1 - 1 - 0)) + rix i = 423 + 141 * d + rix i by omega, cpy_in hr, push_0]
      exact this
    | succ k =>
      rw [push_s, show d + 1 - 1 - (k + 1) = d - 1 - k by omega]
      exact Sw_fr (h.2 k (by omega)) (fun i a b => by rw [k2, cpy_out (by omega)])
  unfold f_X11_minds dn
  by_cases q : d = 20
  · subst q
    rw [if_pos rfl, if_pos (show M 31 3 = (20 : Int32) from h.1)]
    obtain ⟨M1, e1, k1, k2⟩ := R_minds_L11 (M0 := M) 2679 0 FU M (by omega) (by unfold FU; omega) (fun _ _ => rfl) (fun i => by rw [if_neg (fun x => by omega)])
    rw [show f_X11_minds_L11 FU M (0 : Int32) = some M1 from e1, b_s, k1 31 (by decide), h.1, show nI 20 - (1 : Int32) = nI 19 by decide, stf_ok, b_s, b_s]
    obtain ⟨M2, e2, j1, j2, j3, j4⟩ := T (mst M1 31 3 (nI 19)) 19 P (by decide) (by
      rw [mst_n _ _ _ (by decide)]
      exact Sw_fr hs (fun i a b => by rw [k2, if_neg (fun x => by omega)])) ⟨mst_ss _ _ _ _, fun k hk => by
      rw [mst_n _ _ _ (by decide)]
      intro i hi
      have hr := rix_lt i hi
      have := h.2 k (by omega) i hi
      rw [k2, if_pos ⟨by omega, by omega⟩, show 141 * (3 + (19 - 1 - k)) + rix i + 141 = 141 * (3 + (20 - 1 - k)) + rix i by omega]
      exact this⟩
    refine ⟨M2, e2, fun q a b => by rw [j1 q a b, mst_n _ _ _ a, k1 q b], fun i hi => by rw [j2 i hi, mst_sn _ _ _ hi, k1 31 (by decide)], fun i hi => by rw [j3 i hi, mst_n _ _ _ (by decide), k2, if_neg (fun x => by omega)], j4⟩
  · rw [if_neg q, if_neg (show ¬ M 31 3 = (20 : Int32) from fun x => q (nI_inj (b := 20) (by omega) (by decide) (h.1.symm.trans x))), b_s]
    exact T M d P (by omega) hs h
