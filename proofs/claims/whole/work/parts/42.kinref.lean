section KinR
variable {c : Nat → Int32} {n p qa : Nat}
/-- one side of a step: what the reference stores -/
theorem R_side {M : MM} {s : Nat → Int32} (hr : Ra qa M s) {a P : Nat} {par : Int32} (ha : a < 16) (hP : P < 16) (hk : Kv P s) (hpar : parOK a par) : ∃ M1, (z_ld M qa 16 (nI a)).bind (fun v65 => (if v65 < 0 then some (0 : Int32) else if par = (-1 : Int32) then some (0 : Int32) else (z_ld M qa 16 par).bind fun v78 => if v78 < 0 then some (1 : Int32) else (z_ld M qa 16 (nI a)).bind fun v84 => (z_ld M qa 16 par).bind fun v90 => if v90 ≤ (v84 + (1 : Int32)) then some (0 : Int32) else some (1 : Int32)).bind fun j66 => (if j66 = 0 then some (nI a) else some par).bind fun j104 => (if j66 = 0 then (z_ld M qa 16 (nI a)).bind fun v128 => some v128 else (z_ld M qa 16 (nI a)).bind fun v120 => some (v120 + (1 : Int32))).bind fun j115 => z_sto M qa 16 j104 j115) = some M1 ∧ Ra qa M1 (hd1 s a par) ∧ ∀ q, q ≠ qa → M1 q = M q := by
  rw [ld_ok ha, b_s, hr a ha]
  have no : hd1 s a par = s → ∃ M1, (some (0 : Int32)).bind (fun j66 => (if j66 = 0 then some (nI a) else some par).bind fun j104 => (if j66 = 0 then (some (s a)).bind fun v128 => some v128 else (some (s a)).bind fun v120 => some (v120 + (1 : Int32))).bind fun j115 => z_sto M qa 16 j104 j115) = some M1 ∧ Ra qa M1 (hd1 s a par) ∧ ∀ q, q ≠ qa → M1 q = M q := by
    intro h
    rw [b_s, if_pos rfl, b_s, if_pos rfl, b_s, b_s, sto_ok ha, h]
    refine ⟨_, rfl, fun j hj => ?_, fun q hq => mst_n _ _ _ hq⟩
    by_cases e : j = a
    · subst e; rw [mst_ss]
    · rw [mst_sn _ _ _ e]; exact hr j hj
  have lt0 : ∀ j, j < 16 → (s j < 0 ↔ s j = -1) := fun j hj => by
    rcases hk j hj with e | ⟨k, h1, e⟩
    · rw [e]; exact ⟨fun _ => rfl, fun _ => by decide⟩
    · rw [e]; exact ⟨fun h => absurd h (nI_nlt0 (by omega)), fun h => absurd h (nI_ne_m1 (by omega))⟩
  by_cases h1 : s a = -1
  · rw [if_pos ((lt0 a ha).mpr h1)]
    exact no (hd1_no h1)
  · rw [if_neg (fun x => h1 ((lt0 a ha).mp x))]
    rcases hpar with rfl | ⟨f, hf, rfl⟩
    · rw [if_pos rfl]
      exact no (by unfold hd1; rw [if_neg (fun x => x.2.1 rfl)])
    · have hne : ¬ nI f = -1 := nI_ne_m1 (by omega)
      rw [if_neg hne, ld_ok (show f < 16 by omega), b_s, hr f (by omega), b_s, b_s]
      have yes : (s f = -1 ∨ s a + 1 < s f) → ∃ M1, (some (1 : Int32)).bind (fun j66 => (if j66 = 0 then some (nI a) else some (nI f)).bind fun j104 => (if j66 = 0 then (some (s a)).bind fun v128 => some v128 else (some (s a)).bind fun v120 => some (v120 + (1 : Int32))).bind fun j115 => z_sto M qa 16 j104 j115) = some M1 ∧ Ra qa M1 (hd1 s a (nI f)) ∧ ∀ q, q ≠ qa → M1 q = M q := by
        intro h
        rw [b_s, if_neg (by decide), b_s, if_neg (by decide), b_s, b_s, sto_ok (by omega)]
        refine ⟨_, rfl, ?_, fun q hq => mst_n _ _ _ hq⟩
        unfold hd1
        rw [nI_clamp (by omega), if_pos ⟨h1, hne, h⟩]
        intro j hj
        by_cases e : j = f
        · subst e; rw [mst_ss, upd_s]
        · rw [mst_sn _ _ _ e, upd_n _ _ e]; exact hr j hj
      by_cases h2 : s f = -1
      · rw [if_pos ((lt0 f (by omega)).mpr h2)]
        exact yes (Or.inl h2)
      · rw [if_neg (fun x => h2 ((lt0 f (by omega)).mp x))]
        by_cases h3 : s f ≤ s a + 1
        · rw [if_pos h3]
          refine no ?_
          unfold hd1
          rw [nI_clamp (by omega), if_neg]
          rintro ⟨-, -, h | h⟩
          · exact h2 h
          · rw [ti_le] at h3; rw [ti_lt] at h; omega
        · rw [if_neg h3]
          exact yes (Or.inr (by rw [ti_le] at h3; rw [ti_lt]; omega))
/-- the body of the reference's inner loop, at one side -/
theorem R_steps_one {M : MM} {s : Nat → Int32} (hr : Ra qa M s) {a P : Nat} {par k : Int32} {side : Nat} (hside : side < 2) (ha : a < 16) (hP : P < 16) (hk : Kv P s) (hpar : parOK a par) (h48 : (if nI side = (0 : Int32) then some (45 : Int32) else some (61 : Int32)) = some k) (hld : z_ld M 32 3243 (k + nI a) = some par) (m : Nat) : ∃ M1, f_X11_steps_L36 qa (m + 1) M (nI a) (nI side) = f_X11_steps_L36 qa m M1 (nI a) (nI (side + 1)) ∧ Ra qa M1 (hd1 s a par) ∧ ∀ q, q ≠ qa → M1 q = M q := by
  obtain ⟨M1, e1, g1, g2⟩ := R_side hr ha hP hk hpar
  refine ⟨M1, ?_, g1, g2⟩
  rw [f_X11_steps_L36, if_neg (show ¬ (2 : Int32) ≤ nI side from nI_ge (b := 2) hside (by decide)), h48, b_s, hld, b_s, nI_1]
  have key := congrArg (fun o => Option.bind o (fun M129 => f_X11_steps_L36 qa m M129 (nI a) (nI (side + 1)))) e1
  simp only [Option.bind_assoc, b_s] at key
  exact key
theorem R_steps_L36 (hw : WF c n) (hqa : qa ≠ 32) {M : MM} {s : Nat → Int32} (hs : Sw c (M 32) 0) (hr : Ra qa M s) {a P : Nat} (ha : a < n) (hP : P < 16) (hk : Kv P s) : ∃ M1, f_X11_steps_L36 qa FU M (nI a) 0 = some M1 ∧ Ra qa M1 (hd2 c s a) ∧ ∀ q, q ≠ qa → M1 q = M q := by
  have h16 := hw.1
  obtain ⟨M1, e1, g1, g2⟩ := R_steps_one (side := 0) (k := 45) hr (by decide) (show a < 16 by omega) hP hk (parOK_f hw ha) (by rw [if_pos (show nI 0 = (0 : Int32) from rfl)]) (R_fa hs (by omega)) 99999
  have hs1 : Sw c (M1 32) 0 := by rw [g2 32 (Ne.symm hqa)]; exact hs
  obtain ⟨M2, e2, g3, g4⟩ := R_steps_one (side := 1) (k := 61) g1 (by decide) (show a < 16 by omega) hP (Kv_hd hk (by omega) hP (parOK_f hw ha)) (parOK_m hw ha) (by rw [if_neg (by decide)]) (R_mo hs1 (by omega)) 99998
  refine ⟨M2, ?_, g3, fun q hq => (g4 q hq).trans (g2 q hq)⟩
  rw [show f_X11_steps_L36 qa FU M (nI a) 0 = f_X11_steps_L36 qa (99998 + 1) M1 (nI a) (nI (0 + 1)) from e1, show f_X11_steps_L36 qa (99998 + 1) M1 (nI a) (nI (0 + 1)) = f_X11_steps_L36 qa (99997 + 1) M2 (nI a) (nI (1 + 1)) from e2, f_X11_steps_L36, if_pos (by decide)]
theorem R_steps_L29 (hw : WF c n) (hqa : qa ≠ 32) {P : Nat} (hP : P < 16) : ∀ (a m : Nat) (M : MM) (s : Nat → Int32), a ≤ n → a < m → Sw c (M 32) 0 → Ra qa M s → Kv P s → ∃ M1, f_X11_steps_L29 qa m M (nI a - 1) = some M1 ∧ Ra qa M1 (kdn c a s) ∧ ∀ q, q ≠ qa → M1 q = M q := by
  have h16 := hw.1
  intro a
  induction a with
  | zero =>
    intro m M s ha hm hc hr hk
    obtain ⟨m, rfl⟩ : ∃ m', m = m' + 1 := ⟨m - 1, by omega⟩
    refine ⟨M, ?_, hr, fun _ _ => rfl⟩
    rw [f_X11_steps_L29, if_pos (by decide)]
  | succ a ih =>
    intro m M s ha hm hc hr hk
    obtain ⟨m, rfl⟩ : ∃ m', m = m' + 1 := ⟨m - 1, by omega⟩
    obtain ⟨M1, e1, g1, g2⟩ := R_steps_L36 hw hqa hc hr (show a < n by omega) hP hk
    rw [show nI (a + 1) - 1 = nI a from nI_pred a, f_X11_steps_L29, if_neg (nI_nlt0 (by omega)), e1, b_s]
    obtain ⟨M2, e2, g3, g4⟩ := ih m M1 _ (by omega) (by omega) (by rw [g2 32 (Ne.symm hqa)]; exact hc) g1 (Kv_hd (Kv_hd hk (by omega) hP (parOK_f hw (by omega))) (by omega) hP (parOK_m hw (by omega)))
    refine ⟨M2, ?_, g3, fun q hq => (g4 q hq).trans (g2 q hq)⟩
    rw [show nI a + (-1 : Int32) = nI a - 1 by rw [ti_eq, ti_add (by rw [ti_n (by omega)]; show _ ≤ (a : Int) + (-1); omega) (by rw [ti_n (by omega)]; show (a : Int) + (-1) < _; omega), ti_sub (by rw [ti_n (by omega)]; show _ ≤ (a : Int) - 1; omega) (by rw [ti_n (by omega)]; show (a : Int) - 1 < _; omega)]; rfl]
    exact e2
theorem R_steps_L2 {p : Nat} (hp : p < 16) : ∀ (j k m : Nat) (M : MM), k + j = 16 → j < m → (∀ i, i < k → M qa i = ks0 p i) → ∃ M1, f_X11_steps_L2 qa m M (nI p) (nI k) = some M1 ∧ Ra qa M1 (ks0 p) ∧ ∀ q, q ≠ qa → M1 q = M q := by
  intro j
  induction j with
  | zero =>
    intro k m M hk hm h
    obtain ⟨m, rfl⟩ : ∃ m', m = m' + 1 := ⟨m - 1, by omega⟩
    refine ⟨M, ?_, fun i hi => h i (by omega), fun _ _ => rfl⟩
    rw [f_X11_steps_L2, if_pos (show (16 : Int32) ≤ nI k from nI_le (a := 16) (by omega) (by omega))]
  | succ j ih =>
    intro k m M hk hm h
    obtain ⟨m, rfl⟩ : ∃ m', m = m' + 1 := ⟨m - 1, by omega⟩
    have e0 : (if nI k = nI p then some (0 : Int32) else some (-1 : Int32)) = some (ks0 p k) := by
      unfold ks0
      by_cases e : k = p
      · rw [if_pos (by rw [e]), if_pos e]
      · rw [if_neg (fun x => e (nI_inj (by omega) (by omega) x)), if_neg e]
    rw [f_X11_steps_L2, if_neg (show ¬ (16 : Int32) ≤ nI k from nI_ge (b := 16) (by omega) (by decide)), e0, b_s, sto_ok (by omega), b_s, nI_1]
    obtain ⟨M1, e1, g1, g2⟩ := ih (k + 1) m (mst M qa k (ks0 p k)) (by omega) (by omega) (fun i hi => by
      by_cases e : i = k
      · subst e; rw [mst_ss]
      · rw [mst_sn _ _ _ e]; exact h i (by omega))
    exact ⟨M1, e1, g1, fun q hq => (g2 q hq).trans (mst_n _ _ _ hq)⟩
theorem R_steps {M : MM} (hw : WF c n) (hqa : qa ≠ 32) (hs : Sw c (M 32) 0) (hp : p < n) : ∃ M1, f_X11_steps qa M (nI p) = some M1 ∧ Ra qa M1 (kst c p) ∧ ∀ q, q ≠ qa → M1 q = M q := by
  have h16 := hw.1
  obtain ⟨M1, e1, g1, g2⟩ := R_steps_L2 (qa := qa) (show p < 16 by omega) 16 0 FU M (by omega) (by unfold FU; omega) (fun i hi => by omega)
  obtain ⟨M2, e2, g3, g4⟩ := R_steps_L29 (qa := qa) hw hqa (P := p) (by omega) (p + 1) FU M1 _ (by omega) (by unfold FU; omega) (by rw [g2 32 (Ne.symm hqa)]; exact hs) g1 (Kv_0 p)
  refine ⟨M2, ?_, g3, fun q hq => (g4 q hq).trans (g2 q hq)⟩
  unfold f_X11_steps
  rw [show f_X11_steps_L2 qa FU M (nI p) (0 : Int32) = some M1 from e1, b_s, show nI p = nI (p + 1) - 1 from (nI_pred p).symm, e2, b_s]
theorem R_kin_L59 {M : MM} (hw : WF c n) (hs : Sw c (M 32) 0) {s1 s2 : Nat → Int32} (r1 : Ra 44 M s1) (r2 : Ra 45 M s2) {P1 P2 : Nat} (hP1 : P1 < 16) (hP2 : P2 < 16) (k1 : Kv P1 s1) (k2 : Kv P2 s2) (x : Int32) : ∀ (j a m : Nat), a + j = n → j < m → f_X11_kin_L59 m M x (kn s1 s2 a).1 (kn s1 s2 a).2 (nI a) = some (kn s1 s2 n) := by
  have h16 := hw.1
  have lt0 : ∀ {P : Nat} {s : Nat → Int32}, P < 16 → Kv P s → ∀ j, j < 16 → (s j < 0 ↔ s j = -1) := fun hP hk j hj => by
    rcases hk j hj with e | ⟨k, h1, e⟩
    · rw [e]; exact ⟨fun _ => rfl, fun _ => by decide⟩
    · rw [e]; exact ⟨fun h => absurd h (nI_nlt0 (by omega)), fun h => absurd h (nI_ne_m1 (by omega))⟩
  intro j
  induction j with
  | zero =>
    intro a m ha hm
    obtain ⟨m, rfl⟩ : ∃ m', m = m' + 1 := ⟨m - 1, by omega⟩
    obtain rfl : a = n := by omega
    rw [f_X11_kin_L59, R_n hs hw, b_s, if_pos (nI_le (by omega) (by omega))]
  | succ j ih =>
    intro a m ha hm
    obtain ⟨m, rfl⟩ : ∃ m', m = m' + 1 := ⟨m - 1, by omega⟩
    have e := ih (a + 1) m (by omega) (by omega)
    rw [f_X11_kin_L59, R_n hs hw, b_s, if_neg (nI_ge (by omega) (by omega)), ld_ok (by omega), b_s, r1 a (by omega), ld_ok (by omega), b_s, r2 a (by omega), b_s, b_s]
    have no : ¬ (s1 a ≠ -1 ∧ s2 a ≠ -1 ∧ ((kn s1 s2 a).1 = -1 ∨ ¬ (kn s1 s2 a).1 < s1 a + s2 a)) → (some (0 : Int32)).bind (fun j94 => (if j94 = 0 then some (kn s1 s2 a).1 else some (s1 a + s2 a)).bind fun j129 => (if j94 = 0 then some (kn s1 s2 a).2 else some (nI a)).bind fun j143 => f_X11_kin_L59 m M x j129 j143 (nI a + (1 : Int32))) = some (kn s1 s2 n) := by
      intro h
      rw [kn, if_neg h] at e
      rw [b_s, if_pos rfl, b_s, if_pos rfl, b_s, nI_1]
      exact e
    have yes : (s1 a ≠ -1 ∧ s2 a ≠ -1 ∧ ((kn s1 s2 a).1 = -1 ∨ ¬ (kn s1 s2 a).1 < s1 a + s2 a)) → (some (1 : Int32)).bind (fun j94 => (if j94 = 0 then some (kn s1 s2 a).1 else some (s1 a + s2 a)).bind fun j129 => (if j94 = 0 then some (kn s1 s2 a).2 else some (nI a)).bind fun j143 => f_X11_kin_L59 m M x j129 j143 (nI a + (1 : Int32))) = some (kn s1 s2 n) := by
      intro h
      rw [kn, if_pos h] at e
      rw [b_s, if_neg (by decide), b_s, if_neg (by decide), b_s, nI_1]
      exact e
    by_cases h1 : s1 a = -1
    · rw [if_pos ((lt0 hP1 k1 a (by omega)).mpr h1)]; exact no (fun x => x.1 h1)
    · rw [if_neg (fun y => h1 ((lt0 hP1 k1 a (by omega)).mp y))]
      by_cases h5 : s2 a = -1
      · rw [if_pos ((lt0 hP2 k2 a (by omega)).mpr h5)]; exact no (fun x => x.2.1 h5)
      · rw [if_neg (fun y => h5 ((lt0 hP2 k2 a (by omega)).mp y))]
        by_cases h6 : (kn s1 s2 a).1 = -1
        · rw [if_pos h6]; exact yes ⟨h1, h5, Or.inl h6⟩
        · rw [if_neg h6]
          by_cases h7 : (kn s1 s2 a).1 < s1 a + s2 a
          · rw [if_pos h7]; exact no (fun x => x.2.2.elim h6 (fun y => y h7))
          · rw [if_neg h7]; exact yes ⟨h1, h5, Or.inr h7⟩
end KinR
