/-! kin -/
def hd1 (s : Nat → Int32) (a : Nat) (par : Int32) : Nat → Int32 := if s a ≠ -1 ∧ par ≠ -1 ∧ (s par.toNatClampNeg = -1 ∨ s a + 1 < s par.toNatClampNeg) then upd s par.toNatClampNeg (s a + 1) else s
def hd2 (c : Nat → Int32) (s : Nat → Int32) (a : Nat) : Nat → Int32 := hd1 (hd1 s a (c (13 + 8 * a + 2))) a (c (13 + 8 * a + 3))
def kdn (c : Nat → Int32) : Nat → (Nat → Int32) → Nat → Int32
  | 0, s => s
  | a + 1, s => kdn c a (hd2 c s a)
def ks0 (p : Nat) : Nat → Int32 := fun j => if j = p then 0 else -1
def kst (c : Nat → Int32) (p : Nat) : Nat → Int32 := kdn c (p + 1) (ks0 p)
/-- steps are told, or not there; and few -/
def Kv (p : Nat) (s : Nat → Int32) : Prop := ∀ j, j < 16 → s j = -1 ∨ ∃ k, k + j ≤ p ∧ s j = nI k
theorem Kv_0 (p : Nat) : Kv p (ks0 p) := fun j hj => by
  unfold ks0
  by_cases h : j = p
  · rw [if_pos h]; exact Or.inr ⟨0, by omega, rfl⟩
  · rw [if_neg h]; exact Or.inl rfl
def parOK (a : Nat) (par : Int32) : Prop := par = -1 ∨ ∃ j, j < a ∧ par = nI j
theorem Kv_hd {p a : Nat} {s : Nat → Int32} {par : Int32} (h : Kv p s) (ha : a < 16) (hp : p < 16) (hpar : parOK a par) : Kv p (hd1 s a par) := by
  unfold hd1
  by_cases q : s a ≠ -1 ∧ par ≠ -1 ∧ (s par.toNatClampNeg = -1 ∨ s a + 1 < s par.toNatClampNeg)
  · rw [if_pos q]
    obtain ⟨f, hf, rfl⟩ := hpar.resolve_left q.2.1
    obtain ⟨k, hk, ek⟩ := (h a ha).resolve_left q.1
    intro j hj
    rw [nI_clamp (by omega)]
    by_cases e : j = f
    · subst e
      rw [upd_s, ek, nI_1]
      exact Or.inr ⟨k + 1, by omega, rfl⟩
    · rw [upd_n _ _ e]; exact h j hj
  · rw [if_neg q]; exact h
theorem hd1_a {s : Nat → Int32} {a : Nat} {par : Int32} (hpar : parOK a par) (ha : a < 16) : hd1 s a par a = s a := by
  unfold hd1
  by_cases q : s a ≠ -1 ∧ par ≠ -1 ∧ (s par.toNatClampNeg = -1 ∨ s a + 1 < s par.toNatClampNeg)
  · rw [if_pos q]
    obtain ⟨f, hf, rfl⟩ := hpar.resolve_left q.2.1
    rw [nI_clamp (by omega), upd_n _ _ (by omega)]
  · rw [if_neg q]
theorem hd1_no {s : Nat → Int32} {a : Nat} {par : Int32} (h : s a = -1) : hd1 s a par = s := by
  unfold hd1
  rw [if_neg (fun x => x.1 h)]
def Ra (qa : Nat) (M : MM) (s : Nat → Int32) : Prop := ∀ j, j < 16 → M qa j = s j
theorem parOK_f {c : Nat → Int32} {n a : Nat} (hw : WF c n) (ha : a < n) : parOK a (c (13 + 8 * a + 2)) := (hw.2.2.2.2 a ha).2.2.1
theorem parOK_m {c : Nat → Int32} {n a : Nat} (hw : WF c n) (ha : a < n) : parOK a (c (13 + 8 * a + 3)) := (hw.2.2.2.2 a ha).2.2.2.1
section KinX
variable {c : Nat → Int32} {n p qa : Nat}
theorem X4_handOn {M : MM} {s : Nat → Int32} (hr : Ra qa M s) {a : Nat} {par : Int32} (ha : a < 16) (hpar : parOK a par) (hs : s a ≠ -1) : ∃ M1, f_X4_handOn qa M par (s a + 1) = some M1 ∧ Ra qa M1 (hd1 s a par) ∧ ∀ q, q ≠ qa → M1 q = M q := by
  unfold f_X4_handOn
  rcases hpar with rfl | ⟨f, hf, rfl⟩
  · rw [if_pos (by decide), b_s]
    refine ⟨M, rfl, ?_, fun _ _ => rfl⟩
    unfold hd1
    rw [if_neg (fun x => x.2.1 rfl)]
    exact hr
  · rw [if_neg (nI_nlt0 (by omega)), if_neg (show ¬ (16 : Int32) ≤ nI f from nI_ge (b := 16) (by omega) (by decide)), ld_ok (by omega), b_s, hr f (by omega), b_s]
    have put : ∃ M1, (z_sto M qa 16 (nI f) (s a + 1)).bind (fun M27 => some M27) = some M1 ∧ Ra qa M1 (upd s f (s a + 1)) ∧ ∀ q, q ≠ qa → M1 q = M q := by
      rw [sto_ok (by omega), b_s]
      refine ⟨_, rfl, fun j hj => ?_, fun q hq => mst_n _ _ _ hq⟩
      by_cases e : j = f
      · subst e; rw [mst_ss, upd_s]
      · rw [mst_sn _ _ _ e, upd_n _ _ e]; exact hr j hj
    obtain ⟨M1, e1, g1, g2⟩ := put
    unfold hd1
    rw [nI_clamp (by omega)]
    by_cases h1 : s f = -1
    · rw [if_pos h1, e1, b_s, if_pos ⟨hs, nI_ne_m1 (by omega), Or.inl h1⟩]
      exact ⟨M1, rfl, g1, g2⟩
    · rw [if_neg h1]
      by_cases h2 : s f ≤ s a + 1
      · rw [if_pos h2, b_s, if_neg]
        · exact ⟨M, rfl, hr, fun _ _ => rfl⟩
        · rintro ⟨-, -, h | h⟩
          · exact h1 h
          · rw [ti_le] at h2; rw [ti_lt] at h; omega
      · rw [if_neg h2, e1, b_s, if_pos ⟨hs, nI_ne_m1 (by omega), Or.inr (by rw [ti_le] at h2; rw [ti_lt]; omega)⟩]
        exact ⟨M1, rfl, g1, g2⟩
theorem X4_steps_L36 (hw : WF c n) (hqa : qa ≠ 10) : ∀ (a m : Nat) (M : MM) (s : Nat → Int32), a ≤ n → a < m → Rc c M → Ra qa M s → ∃ M1, f_X4_countSteps_L36 qa m M (nI a - 1) = some M1 ∧ Ra qa M1 (kdn c a s) ∧ ∀ q, q ≠ qa → M1 q = M q := by
  have h16 := hw.1
  intro a
  induction a with
  | zero =>
    intro m M s ha hm hc hr
    obtain ⟨m, rfl⟩ : ∃ m', m = m' + 1 := ⟨m - 1, by omega⟩
    refine ⟨M, ?_, hr, fun _ _ => rfl⟩
    rw [f_X4_countSteps_L36, if_pos (by decide)]
  | succ a ih =>
    intro m M s ha hm hc hr
    obtain ⟨m, rfl⟩ : ∃ m', m = m' + 1 := ⟨m - 1, by omega⟩
    rw [show nI (a + 1) - 1 = nI a from nI_pred a, f_X4_countSteps_L36, if_neg (nI_nlt0 (by omega)), ld_ok (by omega), b_s, hr a (by omega)]
    have step : ∃ M1, (if s a = (-1 : Int32) then some M else (f_X7_fact M (nI a) (2 : Int32)).bind fun v51 => (some (s a)).bind fun v56 => (f_X4_handOn qa M v51 (v56 + (1 : Int32))).bind fun M59 => (f_X7_fact M59 (nI a) (3 : Int32)).bind fun v66 => (z_ld M59 qa 16 (nI a)).bind fun v71 => (f_X4_handOn qa M59 v66 (v71 + (1 : Int32))).bind fun M74 => some M74) = some M1 ∧ Ra qa M1 (hd2 c s a) ∧ ∀ q, q ≠ qa → M1 q = M q := by
      by_cases h : s a = -1
      · rw [if_pos h]
        refine ⟨M, rfl, ?_, fun _ _ => rfl⟩
        unfold hd2
        rw [hd1_no h, hd1_no h]
        exact hr
      · obtain ⟨M1, e1, g1, g2⟩ := X4_handOn hr (show a < 16 by omega) (parOK_f hw (show a < n by omega)) h
        have hc1 : Rc c M1 := fun i hi => by rw [g2 10 (Ne.symm hqa)]; exact hc i hi
        have ea : hd1 s a (c (13 + 8 * a + 2)) a = s a := hd1_a (parOK_f hw (show a < n by omega)) (by omega)
        obtain ⟨M2, e2, g3, g4⟩ := X4_handOn g1 (show a < 16 by omega) (parOK_m hw (show a < n by omega)) (by rw [ea]; exact h)
        rw [if_neg h, X7_f2 hc hw (by omega), b_s, b_s, e1, b_s, X7_f3 hc1 hw (by omega), b_s, ld_ok (by omega), b_s, g1 a (by omega), e2, b_s]
        exact ⟨M2, rfl, g3, fun q hq => (g4 q hq).trans (g2 q hq)⟩
    obtain ⟨M1, e1, g1, g2⟩ := step
    rw [e1, b_s]
    have hc1 : Rc c M1 := fun i hi => by rw [g2 10 (Ne.symm hqa)]; exact hc i hi
    obtain ⟨M2, e2, g3, g4⟩ := ih m M1 _ (by omega) (by omega) hc1 g1
    refine ⟨M2, ?_, g3, fun q hq => (g4 q hq).trans (g2 q hq)⟩
    rw [show nI a + (-1 : Int32) = nI a - 1 by rw [ti_eq, ti_add (by rw [ti_n (by omega)]; show _ ≤ (a : Int) + (-1); omega) (by rw [ti_n (by omega)]; show (a : Int) + (-1) < _; omega), ti_sub (by rw [ti_n (by omega)]; show _ ≤ (a : Int) - 1; omega) (by rw [ti_n (by omega)]; show (a : Int) - 1 < _; omega)]; rfl]
    exact e2
theorem X4_steps_L2 {p : Nat} (hp : p < 16) : ∀ (j k m : Nat) (M : MM), k + j = 16 → j < m → (∀ i, i < k → M qa i = ks0 p i) → ∃ M1, f_X4_countSteps_L2 qa m M (nI p) (nI k) = some M1 ∧ Ra qa M1 (ks0 p) ∧ ∀ q, q ≠ qa → M1 q = M q := by
  intro j
  induction j with
  | zero =>
    intro k m M hk hm h
    obtain ⟨m, rfl⟩ : ∃ m', m = m' + 1 := ⟨m - 1, by omega⟩
    refine ⟨M, ?_, fun i hi => h i (by omega), fun _ _ => rfl⟩
    rw [f_X4_countSteps_L2, if_pos (show (16 : Int32) ≤ nI k from nI_le (a := 16) (by omega) (by omega))]
  | succ j ih =>
    intro k m M hk hm h
    obtain ⟨m, rfl⟩ : ∃ m', m = m' + 1 := ⟨m - 1, by omega⟩
    have e0 : (if nI k = nI p then some (0 : Int32) else some (-1 : Int32)) = some (ks0 p k) := by
      unfold ks0
      by_cases e : k = p
      · rw [if_pos (by rw [e]), if_pos e]
      · rw [if_neg (fun x => e (nI_inj (by omega) (by omega) x)), if_neg e]
    rw [f_X4_countSteps_L2, if_neg (show ¬ (16 : Int32) ≤ nI k from nI_ge (b := 16) (by omega) (by decide)), e0, b_s, sto_ok (by omega), b_s, nI_1]
    obtain ⟨M1, e1, g1, g2⟩ := ih (k + 1) m (mst M qa k (ks0 p k)) (by omega) (by omega) (fun i hi => by
      by_cases e : i = k
      · subst e; rw [mst_ss]
      · rw [mst_sn _ _ _ e]; exact h i (by omega))
    exact ⟨M1, e1, g1, fun q hq => (g2 q hq).trans (mst_n _ _ _ hq)⟩
theorem X4_countSteps {M : MM} (hw : WF c n) (hqa : qa ≠ 10) (hc : Rc c M) (hp : p < n) : ∃ M1, f_X4_countSteps qa M (nI p) = some M1 ∧ Ra qa M1 (kst c p) ∧ ∀ q, q ≠ qa → M1 q = M q := by
  have h16 := hw.1
  obtain ⟨M1, e1, g1, g2⟩ := X4_steps_L2 (qa := qa) (show p < 16 by omega) 16 0 FU M (by omega) (by unfold FU; omega) (fun i hi => by omega)
  have hc1 : Rc c M1 := fun i hi => by rw [g2 10 (Ne.symm hqa)]; exact hc i hi
  obtain ⟨M2, e2, g3, g4⟩ := X4_steps_L36 (qa := qa) hw hqa (p + 1) FU M1 _ (by omega) (by unfold FU; omega) hc1 g1
  refine ⟨M2, ?_, g3, fun q hq => (g4 q hq).trans (g2 q hq)⟩
  unfold f_X4_countSteps
  have em : (if ((16 : Int32) - (1 : Int32)) < nI p then ((16 : Int32) - (1 : Int32)) else nI p) = nI p := if_neg (show ¬ nI 15 < nI p from nI_nlt (by omega) (by decide))
  rw [show f_X4_countSteps_L2 qa FU M (nI p) (0 : Int32) = some M1 from e1, b_s, em, show nI p = nI (p + 1) - 1 from (nI_pred p).symm, e2, b_s]
end KinX
/-- the least sum of steps, and by whom, among the first a -/
def kn (s1 s2 : Nat → Int32) : Nat → Int32 × Int32
  | 0 => (-1, -1)
  | a + 1 => if s1 a ≠ -1 ∧ s2 a ≠ -1 ∧ ((kn s1 s2 a).1 = -1 ∨ ¬ (kn s1 s2 a).1 < s1 a + s2 a) then (s1 a + s2 a, nI a) else kn s1 s2 a
theorem Kv_kdn {c : Nat → Int32} {n p : Nat} (hw : WF c n) (hp : p < 16) : ∀ (a : Nat) (s : Nat → Int32), a ≤ n → Kv p s → Kv p (kdn c a s)
  | 0, s, _, h => h
  | a + 1, s, ha, h => by
    have h16 := hw.1
    exact Kv_kdn hw hp a _ (by omega) (Kv_hd (Kv_hd h (by omega) hp (parOK_f hw (by omega))) (by omega) hp (parOK_m hw (by omega)))
theorem Kv_st {c : Nat → Int32} {n p : Nat} (hw : WF c n) (hp : p < n) : Kv p (kst c p) := by
  have h16 := hw.1
  exact Kv_kdn hw (by omega) (p + 1) _ (by omega) (Kv_0 p)
section Seek
variable {c : Nat → Int32} {n : Nat}
theorem X4_seek_L31 (hw : WF c n) {s1 s2 : Nat → Int32} : ∀ (j a m : Nat) (M : MM), a + j = n → j < m → Rc c M → Ra 20 M s1 → Ra 21 M s2 → M 5 2 = (kn s1 s2 a).1 → M 5 3 = (kn s1 s2 a).2 → ∃ M1, f_X4_seek_L31 m M (nI a) = some M1 ∧ M1 5 2 = (kn s1 s2 n).1 ∧ M1 5 3 = (kn s1 s2 n).2 ∧ ∀ q, q ≠ 5 → M1 q = M q := by
  have h16 := hw.1
  intro j
  induction j with
  | zero =>
    intro a m M ha hm hc r1 r2 h2 h3
    obtain ⟨m, rfl⟩ : ∃ m', m = m' + 1 := ⟨m - 1, by omega⟩
    obtain rfl : a = n := by omega
    refine ⟨M, ?_, h2, h3, fun _ _ => rfl⟩
    rw [f_X4_seek_L31, X7_people hc hw, b_s, if_pos (nI_le (by omega) (by omega))]
  | succ j ih =>
    intro a m M ha hm hc r1 r2 h2 h3
    obtain ⟨m, rfl⟩ : ∃ m', m = m' + 1 := ⟨m - 1, by omega⟩
    rw [f_X4_seek_L31, X7_people hc hw, b_s, if_neg (nI_ge (by omega) (by omega)), if_neg (show ¬ (16 : Int32) ≤ nI a from nI_ge (b := 16) (by omega) (by decide)), ld_ok (by omega), b_s, r1 a (by omega), ld_ok (by omega), b_s, r2 a (by omega), b_s, b_s, h2, nI_1]
    have no : ¬ (s1 a ≠ -1 ∧ s2 a ≠ -1 ∧ ((kn s1 s2 a).1 = -1 ∨ ¬ (kn s1 s2 a).1 < s1 a + s2 a)) → ∃ M1, (some M).bind (fun j72 => f_X4_seek_L31 m j72 (nI (a + 1))) = some M1 ∧ M1 5 2 = (kn s1 s2 n).1 ∧ M1 5 3 = (kn s1 s2 n).2 ∧ ∀ q, q ≠ 5 → M1 q = M q := by
      intro h
      rw [b_s]
      have e : kn s1 s2 (a + 1) = kn s1 s2 a := by rw [kn, if_neg h]
      exact ih (a + 1) m M (by omega) (by omega) hc r1 r2 (by rw [e]; exact h2) (by rw [e]; exact h3)
    have yes : (s1 a ≠ -1 ∧ s2 a ≠ -1 ∧ ((kn s1 s2 a).1 = -1 ∨ ¬ (kn s1 s2 a).1 < s1 a + s2 a)) → ∃ M1, ((z_stf M 5 2 (s1 a + s2 a)).bind fun M106 => (z_stf M106 5 3 (nI a)).bind fun M112 => some M112).bind (fun j72 => f_X4_seek_L31 m j72 (nI (a + 1))) = some M1 ∧ M1 5 2 = (kn s1 s2 n).1 ∧ M1 5 3 = (kn s1 s2 n).2 ∧ ∀ q, q ≠ 5 → M1 q = M q := by
      intro h
      rw [show z_stf M 5 2 (s1 a + s2 a) = some _ from rfl, b_s, show z_stf (mst M 5 2 (s1 a + s2 a)) 5 3 (nI a) = some _ from rfl, b_s, b_s]
      have e : kn s1 s2 (a + 1) = (s1 a + s2 a, nI a) := by rw [kn, if_pos h]
      have k5 : ∀ q, q ≠ 5 → mst (mst M 5 2 (s1 a + s2 a)) 5 3 (nI a) q = M q := fun q hq => by rw [mst_n _ _ _ hq, mst_n _ _ _ hq]
      obtain ⟨M1, e1, g1, g2, g3⟩ := ih (a + 1) m (mst (mst M 5 2 (s1 a + s2 a)) 5 3 (nI a)) (by omega) (by omega) (fun i hi => by rw [k5 10 (by decide)]; exact hc i hi) (fun i hi => by rw [k5 20 (by decide)]; exact r1 i hi) (fun i hi => by rw [k5 21 (by decide)]; exact r2 i hi) (by rw [e, mst_sn _ _ _ (by decide), mst_ss]) (by rw [e, mst_ss])
      exact ⟨M1, e1, g1, g2, fun q hq => (g3 q hq).trans (k5 q hq)⟩
    by_cases h1 : s1 a = -1
    · rw [if_pos h1]; exact no (fun x => x.1 h1)
    · rw [if_neg h1]
      by_cases h5 : s2 a = -1
      · rw [if_pos h5]; exact no (fun x => x.2.1 h5)
      · rw [if_neg h5]
        by_cases h6 : (kn s1 s2 a).1 = -1
        · rw [if_pos h6]; exact yes ⟨h1, h5, Or.inl h6⟩
        · rw [if_neg h6]
          by_cases h7 : (kn s1 s2 a).1 < s1 a + s2 a
          · rw [if_pos h7]; exact no (fun x => x.2.2.elim h6 (fun y => y h7))
          · rw [if_neg h7]; exact yes ⟨h1, h5, Or.inr h7⟩
theorem X4_seek {M : MM} (hw : WF c n) (hc : Rc c M) {p q : Nat} (hp : p < n) (hq : q < n) : ∃ M1, f_X4_seek M (nI p) (nI q) = some M1 ∧ M1 5 2 = (kn (kst c p) (kst c q) n).1 ∧ M1 5 3 = (kn (kst c p) (kst c q) n).2 ∧ ∀ k, k ≠ 5 → k ≠ 20 → k ≠ 21 → M1 k = M k := by
  have h16 := hw.1
  obtain ⟨M1, e1, g1, g2⟩ := X4_countSteps (qa := 20) hw (by decide) hc hp
  have hc1 : Rc c M1 := fun i hi => by rw [g2 10 (by decide)]; exact hc i hi
  obtain ⟨M2, e2, g3, g4⟩ := X4_countSteps (qa := 21) hw (by decide) hc1 hq
  unfold f_X4_seek
  rw [e1, b_s, e2, b_s, show z_stf M2 5 2 (-1) = some _ from rfl, b_s, show z_stf (mst M2 5 2 (-1)) 5 3 (-1) = some _ from rfl, b_s]
  have k5 : ∀ q, q ≠ 5 → mst (mst M2 5 2 (-1)) 5 3 (-1) q = M2 q := fun q hq => by rw [mst_n _ _ _ hq, mst_n _ _ _ hq]
  obtain ⟨M3, e3, g5, g6, g7⟩ := X4_seek_L31 hw (s1 := kst c p) (s2 := kst c q) n 0 FU (mst (mst M2 5 2 (-1)) 5 3 (-1)) (by omega) (by unfold FU; omega) (fun i hi => by rw [k5 10 (by decide), g4 10 (by decide)]; exact hc1 i hi) (fun i hi => by rw [k5 20 (by decide), g4 20 (by decide)]; exact g1 i hi) (fun i hi => by rw [k5 21 (by decide)]; exact g3 i hi) (by rw [mst_sn _ _ _ (by decide), mst_ss]; rfl) (by rw [mst_ss]; rfl)
  rw [show f_X4_seek_L31 FU (mst (mst M2 5 2 (-1)) 5 3 (-1)) (0 : Int32) = some M3 from e3, b_s]
  exact ⟨M3, rfl, g5, g6, fun k a b d => by rw [g7 k a, k5 k a, g4 k d, g2 k b]⟩
end Seek
