/-! the state: 141 numbers in the class's order; what must be of it; the methods of State -/
def Rc (c : Nat → Int32) (M : MM) : Prop := ∀ i, i < 141 → M 10 i = c i
/-- one of the people, well told -/
def WFp (c : Nat → Int32) (p : Nat) : Prop := (c (13 + 8 * p) = 0 ∨ c (13 + 8 * p) = 1) ∧ (∃ a, a < 10 ∧ c (13 + 8 * p + 1) = nI a) ∧ (c (13 + 8 * p + 2) = -1 ∨ ∃ j, j < p ∧ c (13 + 8 * p + 2) = nI j) ∧ (c (13 + 8 * p + 3) = -1 ∨ ∃ j, j < p ∧ c (13 + 8 * p + 3) = nI j) ∧ ∀ k, 4 ≤ k → k < 8 → ∃ y, y ≤ 999 ∧ c (13 + 8 * p + k) = nI y
def WF (c : Nat → Int32) (n : Nat) : Prop := n ≤ 16 ∧ c 0 = nI n ∧ (∃ r, r ≤ 2 ∧ c 1 = nI r) ∧ (∃ k, k ≤ 10 ∧ c 2 = nI k ∧ ∀ i, i < k → ∃ v, v ≤ 10 ∧ c (3 + i) = nI v) ∧ ∀ p, p < n → WFp c p
theorem ldX {c : Nat → Int32} {M : MM} (hc : Rc c M) {i : Nat} (h : i < 141) : z_ld M 10 141 (nI i) = some (c i) := by
  rw [ld_ok h, hc i h]
section X7
variable {c : Nat → Int32} {M : MM} {n : Nat}
theorem X7_people (hc : Rc c M) (hw : WF c n) : f_X7_people M = some (nI n) := by
  unfold f_X7_people
  rw [show z_ld M 10 141 (0 : Int32) = some (c 0) from ldX hc (by decide), b_s, hw.2.1]
theorem X7_has_in (hc : Rc c M) (hw : WF c n) {p : Nat} (hp : p < n) : f_X7_has M (nI p) = some 1 := by
  have h16 := hw.1
  unfold f_X7_has
  rw [if_neg (nI_nlt0 (by omega)), if_neg (show ¬ (16 : Int32) ≤ nI p from nI_ge (b := 16) (by omega) (by decide)), show z_ld M 10 141 (0 : Int32) = some (c 0) from ldX hc (by decide), b_s, hw.2.1, if_neg (nI_ge hp (by omega)), b_s, rz1]
theorem X7_has_out (hc : Rc c M) (hw : WF c n) {x : Int32} (hp : ¬ ∃ p, p < n ∧ x = nI p) : f_X7_has M x = some 0 := by
  have h16 := hw.1
  unfold f_X7_has
  rcases ix3 x (n := n) (by omega) with h | ⟨h, h2⟩ | ⟨j, hj, e⟩
  · rw [if_pos h, b_s, rz0]
  · rw [if_neg h]
    by_cases h3 : (16 : Int32) ≤ x
    · rw [if_pos h3, b_s, rz0]
    · rw [if_neg h3, show z_ld M 10 141 (0 : Int32) = some (c 0) from ldX hc (by decide), b_s, hw.2.1, if_pos h2, b_s, rz0]
  · exact absurd ⟨j, hj, e⟩ hp
theorem ix8 (p k : Nat) : ((13 : Int32) + nI p * (8 : Int32)) + nI k = nI (13 + 8 * p + k) := by
  rw [show (13 : Int32) = nI 13 from rfl, show (8 : Int32) = nI 8 from rfl, pk_mul, nI_add, nI_add, Nat.mul_comm]
theorem X7_fact (hc : Rc c M) (hw : WF c n) {p k : Nat} (hp : p < n) (hk : k < 8) : f_X7_fact M (nI p) (nI k) = some (c (13 + 8 * p + k)) := by
  have h16 := hw.1
  unfold f_X7_fact
  rw [X7_has_in hc hw hp, b_s, if_neg (by decide), if_neg (nI_nlt0 (by omega)), if_pos (show nI k < (8 : Int32) from nI_lt hk (by decide)), ix8, ldX hc (by omega), b_s]
theorem X7_f0 (hc : Rc c M) (hw : WF c n) {p : Nat} (hp : p < n) : f_X7_fact M (nI p) 0 = some (c (13 + 8 * p)) := X7_fact hc hw hp (k := 0) (by decide)
theorem X7_f1 (hc : Rc c M) (hw : WF c n) {p : Nat} (hp : p < n) : f_X7_fact M (nI p) 1 = some (c (13 + 8 * p + 1)) := X7_fact hc hw hp (k := 1) (by decide)
theorem X7_f2 (hc : Rc c M) (hw : WF c n) {p : Nat} (hp : p < n) : f_X7_fact M (nI p) 2 = some (c (13 + 8 * p + 2)) := X7_fact hc hw hp (k := 2) (by decide)
theorem X7_f3 (hc : Rc c M) (hw : WF c n) {p : Nat} (hp : p < n) : f_X7_fact M (nI p) 3 = some (c (13 + 8 * p + 3)) := X7_fact hc hw hp (k := 3) (by decide)
theorem X7_f4 (hc : Rc c M) (hw : WF c n) {p : Nat} (hp : p < n) : f_X7_fact M (nI p) 4 = some (c (13 + 8 * p + 4)) := X7_fact hc hw hp (k := 4) (by decide)
theorem X7_f5 (hc : Rc c M) (hw : WF c n) {p : Nat} (hp : p < n) : f_X7_fact M (nI p) 5 = some (c (13 + 8 * p + 5)) := X7_fact hc hw hp (k := 5) (by decide)
theorem X7_f6 (hc : Rc c M) (hw : WF c n) {p : Nat} (hp : p < n) : f_X7_fact M (nI p) 6 = some (c (13 + 8 * p + 6)) := X7_fact hc hw hp (k := 6) (by decide)
theorem X7_f7 (hc : Rc c M) (hw : WF c n) {p : Nat} (hp : p < n) : f_X7_fact M (nI p) 7 = some (c (13 + 8 * p + 7)) := X7_fact hc hw hp (k := 7) (by decide)
theorem X7_fact_out (hc : Rc c M) (hw : WF c n) {x y : Int32} (hp : ¬ ∃ p, p < n ∧ x = nI p) : f_X7_fact M x y = some (-1) := by
  unfold f_X7_fact
  rw [X7_has_out hc hw hp, b_s, if_pos rfl]
theorem X7_isMan (hc : Rc c M) (hw : WF c n) {p : Nat} (hp : p < n) : f_X7_isMan M (nI p) = some (if c (13 + 8 * p) = 0 then 1 else 0) := by
  unfold f_X7_isMan
  rw [X7_f0 hc hw hp, b_s]
  by_cases h : c (13 + 8 * p) = 0
  · rw [if_pos h, if_pos h, b_s, rz1]
  · rw [if_neg h, if_neg h, b_s, rz0]
theorem X7_isMan_out (hc : Rc c M) (hw : WF c n) {x : Int32} (hp : ¬ ∃ p, p < n ∧ x = nI p) : f_X7_isMan M x = some 0 := by
  unfold f_X7_isMan
  rw [X7_fact_out hc hw hp, b_s, if_neg (by decide), b_s, rz0]
theorem X7_isWoman (hc : Rc c M) (hw : WF c n) {p : Nat} (hp : p < n) : f_X7_isWoman M (nI p) = some (if c (13 + 8 * p) = 1 then 1 else 0) := by
  unfold f_X7_isWoman
  rw [X7_f0 hc hw hp, b_s]
  by_cases h : c (13 + 8 * p) = 1
  · rw [if_pos h, if_pos h, b_s, rz1]
  · rw [if_neg h, if_neg h, b_s, rz0]
theorem X7_isWoman_out (hc : Rc c M) (hw : WF c n) {x : Int32} (hp : ¬ ∃ p, p < n ∧ x = nI p) : f_X7_isWoman M x = some 0 := by
  unfold f_X7_isWoman
  rw [X7_fact_out hc hw hp, b_s, if_neg (by decide), b_s, rz0]
theorem X7_ruleNow (hc : Rc c M) : f_X7_ruleNow M = some (c 1) := by
  unfold f_X7_ruleNow
  rw [show z_ld M 10 141 (1 : Int32) = some (c 1) from ldX hc (i := 1) (by decide), b_s]
theorem X7_signs (hc : Rc c M) : f_X7_signs M = some (c 2) := by
  unfold f_X7_signs
  rw [show z_ld M 10 141 (2 : Int32) = some (c 2) from ldX hc (i := 2) (by decide), b_s]
theorem X7_hasRoom (hc : Rc c M) (hw : WF c n) : f_X7_hasRoom M = some (if n < 16 then 1 else 0) := by
  have h16 := hw.1
  unfold f_X7_hasRoom
  rw [X7_people hc hw, b_s]
  by_cases h : n < 16
  · rw [if_neg (show ¬ (16 : Int32) ≤ nI n from nI_ge h (by decide)), if_pos h, b_s, rz1]
  · rw [if_pos (show (16 : Int32) ≤ nI n from nI_le (a := 16) (by omega) (by omega)), if_neg h, b_s, rz0]
theorem X7_sign_in (hc : Rc c M) {L k : Nat} (hL : L ≤ 10) (h2 : c 2 = nI L) (hk : k < L) : f_X7_signNumber M (nI k) = some (c (3 + k)) := by
  unfold f_X7_signNumber
  rw [if_neg (nI_nlt0 (by omega)), if_neg (show ¬ (10 : Int32) ≤ nI k from nI_ge (b := 10) (by omega) (by decide)), X7_signs hc, b_s, h2, if_neg (nI_ge hk (by omega)), show (3 : Int32) + nI k = nI (3 + k) from nI_add 3 k, ldX hc (by omega), b_s, b_s]
theorem X7_sign_out (hc : Rc c M) {L : Nat} {x : Int32} (hL : L ≤ 10) (h2 : c 2 = nI L) (hx : ¬ ∃ k, k < L ∧ x = nI k) : f_X7_signNumber M x = some (-1) := by
  unfold f_X7_signNumber
  rcases ix3 x (n := L) (by omega) with h | ⟨h, h3⟩ | ⟨j, hj, e⟩
  · rw [if_pos h, b_s]
  · rw [if_neg h]
    by_cases h4 : (10 : Int32) ≤ x
    · rw [if_pos h4, b_s]
    · rw [if_neg h4, X7_signs hc, b_s, h2, if_pos h3, b_s]
  · exact absurd ⟨j, hj, e⟩ hx
theorem X7_hasOrNone_in (hc : Rc c M) (hw : WF c n) {x : Int32} (hp : x = -1 ∨ ∃ p, p < n ∧ x = nI p) : f_X7_hasOrNone M x = some 1 := by
  have h16 := hw.1
  unfold f_X7_hasOrNone
  by_cases h : x = -1
  · rw [if_pos h, b_s, rz1]
  · rw [if_neg h]
    obtain ⟨p, hp2, rfl⟩ := hp.resolve_left h
    rw [X7_has_in hc hw hp2, b_s, if_neg (by decide), b_s, rz1]
theorem X7_hasOrNone_out (hc : Rc c M) (hw : WF c n) {x : Int32} (h : ¬ x = -1) (hp : ¬ ∃ p, p < n ∧ x = nI p) : f_X7_hasOrNone M x = some 0 := by
  unfold f_X7_hasOrNone
  rw [if_neg h, X7_has_out hc hw hp, b_s, if_pos rfl, b_s, rz0]
theorem X7_childrenOf_L4 (hc : Rc c M) (hw : WF c n) (x : Int32) : ∀ (k i m : Nat), i + k = n → k < m → f_X7_childrenOf_L4 m M x (bs (fun q => decide (c (13 + 8 * q + 2) = x ∨ c (13 + 8 * q + 3) = x)) i) (nI i) = some (bs (fun q => decide (c (13 + 8 * q + 2) = x ∨ c (13 + 8 * q + 3) = x)) n) := by
  have h16 := hw.1
  intro k
  induction k with
  | zero =>
    intro i m hi hm
    obtain ⟨m, rfl⟩ : ∃ m', m = m' + 1 := ⟨m - 1, by omega⟩
    rw [f_X7_childrenOf_L4, X7_people hc hw, b_s, if_pos (nI_le (by omega) (by omega)), show i = n by omega]
  | succ k ih =>
    intro i m hi hm
    obtain ⟨m, rfl⟩ : ∃ m', m = m' + 1 := ⟨m - 1, by omega⟩
    rw [f_X7_childrenOf_L4, X7_people hc hw, b_s, if_neg (nI_ge (by omega) (by omega)), X7_f2 hc hw (by omega), b_s, X7_f3 hc hw (by omega), b_s]
    have e := ih (i + 1) m (by omega) (by omega)
    rw [bs, ← nI_1] at e
    by_cases h2 : c (13 + 8 * i + 2) = x
    · rw [if_pos h2, b_s]
      rw [if_pos (by simp [h2])] at e
      exact e
    · rw [if_neg h2]
      by_cases h3 : c (13 + 8 * i + 3) = x
      · rw [if_pos h3, b_s]
        rw [if_pos (by simp [h3])] at e
        exact e
      · rw [if_neg h3, b_s]
        rw [if_neg (by simp [h2, h3])] at e
        exact e
theorem X7_childrenOf (hc : Rc c M) (hw : WF c n) (x : Int32) : f_X7_childrenOf M x = some (bs (fun q => decide (c (13 + 8 * q + 2) = x ∨ c (13 + 8 * q + 3) = x)) n) := by
  have h16 := hw.1
  unfold f_X7_childrenOf
  rw [show f_X7_childrenOf_L4 FU M x (0 : Int32) (0 : Int32) = _ from X7_childrenOf_L4 hc hw x n 0 FU (by omega) (by unfold FU; omega), b_s]
end X7
/-! what changes it -/
theorem Rc_upd {c : Nat → Int32} {M : MM} (hc : Rc c M) (j : Nat) (v : Int32) : Rc (upd c j v) (mst M 10 j v) := by
  intro i hi
  by_cases h : i = j
  · subst h; rw [mst_ss, upd_s]
  · rw [mst_sn _ _ _ h, upd_n _ _ h, hc i hi]
def cput (c : Nat → Int32) (n : Nat) (sex arms fa mo : Int32) : Nat → Int32 := upd (upd (upd (upd (upd (upd (upd (upd (upd c (13 + 8 * n + 0) sex) (13 + 8 * n + 1) arms) (13 + 8 * n + 2) fa) (13 + 8 * n + 3) mo) (13 + 8 * n + 4) 0) (13 + 8 * n + 5) 999) (13 + 8 * n + 6) 0) (13 + 8 * n + 7) 999) 0 (nI (n + 1))
def mput (M : MM) (n : Nat) (sex arms fa mo : Int32) : MM := mst (mst (mst (mst (mst (mst (mst (mst (mst M 10 (13 + 8 * n + 0) sex) 10 (13 + 8 * n + 1) arms) 10 (13 + 8 * n + 2) fa) 10 (13 + 8 * n + 3) mo) 10 (13 + 8 * n + 4) 0) 10 (13 + 8 * n + 5) 999) 10 (13 + 8 * n + 6) 0) 10 (13 + 8 * n + 7) 999) 10 0 (nI (n + 1))
theorem Rc_put {c : Nat → Int32} {M : MM} (hc : Rc c M) (n : Nat) (sex arms fa mo : Int32) : Rc (cput c n sex arms fa mo) (mput M n sex arms fa mo) := Rc_upd (Rc_upd (Rc_upd (Rc_upd (Rc_upd (Rc_upd (Rc_upd (Rc_upd (Rc_upd hc _ _) _ _) _ _) _ _) _ _) _ _) _ _) _ _) _ _
theorem mput_n (M : MM) (n : Nat) (sex arms fa mo : Int32) {q : Nat} (h : q ≠ 10) : mput M n sex arms fa mo q = M q := by
  unfold mput
  rw [mst_n _ _ _ h, mst_n _ _ _ h, mst_n _ _ _ h, mst_n _ _ _ h, mst_n _ _ _ h, mst_n _ _ _ h, mst_n _ _ _ h, mst_n _ _ _ h, mst_n _ _ _ h]
/-- the arms of one more: those told, or the father's -/
def parms (c : Nat → Int32) (arms fa : Int32) : Int32 := if fa = -1 then arms else c (13 + 8 * fa.toNatClampNeg + 1)
theorem ix8k (n k : Nat) : ((13 : Int32) + nI n * (8 : Int32)) + nI k = nI (13 + 8 * n + k) := ix8 n k
section X7b
variable {c : Nat → Int32} {M : MM} {n : Nat}
theorem X7_addPerson (hc : Rc c M) (hw : WF c n) (hn : n < 16) {sex arms fa mo : Int32} (hf : fa = -1 ∨ ∃ p, p < n ∧ fa = nI p) : f_X7_addPerson M sex arms fa mo = some (mput M n sex (parms c arms fa) fa mo) := by
  have sto : ∀ (M : MM) (k : Nat) (v : Int32), k < 8 → z_sto M 10 141 (((13 : Int32) + nI n * (8 : Int32)) + nI k) v = some (mst M 10 (13 + 8 * n + k) v) := by
    intro M k v hk
    rw [ix8, sto_ok (by omega)]
  unfold f_X7_addPerson
  rw [X7_hasRoom hc hw, b_s, if_pos hn, if_neg (by decide), X7_people hc hw, b_s, show z_sto M 10 141 (((13 : Int32) + nI n * (8 : Int32)) + (0 : Int32)) sex = _ from sto M 0 sex (by decide), b_s]
  have ej : (if fa = (-1 : Int32) then some arms else (f_X7_fact (mst M 10 (13 + 8 * n + 0) sex) fa (1 : Int32)).bind fun (v50 : Int32) => some v50) = some (parms c arms fa) := by
    unfold parms
    by_cases h : fa = -1
    · rw [if_pos h, if_pos h]
    · rw [if_neg h, if_neg h]
      obtain ⟨p, hp, rfl⟩ := hf.resolve_left h
      have hc2 : Rc (upd c (13 + 8 * n + 0) sex) (mst M 10 (13 + 8 * n + 0) sex) := Rc_upd hc _ _
      have h0 : (upd c (13 + 8 * n + 0) sex) 0 = nI n := by rw [upd_n _ _ (by omega)]; exact hw.2.1
      have e1 : f_X7_has (mst M 10 (13 + 8 * n + 0) sex) (nI p) = some 1 := by
        unfold f_X7_has
        rw [if_neg (nI_nlt0 (by omega)), if_neg (show ¬ (16 : Int32) ≤ nI p from nI_ge (b := 16) (by omega) (by decide)), show z_ld (mst M 10 (13 + 8 * n + 0) sex) 10 141 (0 : Int32) = some _ from ldX hc2 (by decide), b_s, h0, if_neg (nI_ge hp (by omega)), b_s, rz1]
      unfold f_X7_fact
      rw [e1, b_s, if_neg (by decide), if_neg (by decide), if_pos (by decide), show ((13 : Int32) + nI p * (8 : Int32)) + (1 : Int32) = nI (13 + 8 * p + 1) from ix8 p 1, ldX hc2 (by omega), b_s, b_s, nI_clamp (by omega), upd_n _ _ (by omega)]
  rw [ej, b_s, show ∀ M v, z_sto M 10 141 (((13 : Int32) + nI n * (8 : Int32)) + (1 : Int32)) v = _ from fun M v => sto M 1 v (by decide), b_s,
    show ∀ M v, z_sto M 10 141 (((13 : Int32) + nI n * (8 : Int32)) + (2 : Int32)) v = _ from fun M v => sto M 2 v (by decide), b_s,
    show ∀ M v, z_sto M 10 141 (((13 : Int32) + nI n * (8 : Int32)) + (3 : Int32)) v = _ from fun M v => sto M 3 v (by decide), b_s,
    show ∀ M v, z_sto M 10 141 (((13 : Int32) + nI n * (8 : Int32)) + (4 : Int32)) v = _ from fun M v => sto M 4 v (by decide), b_s,
    show ∀ M v, z_sto M 10 141 (((13 : Int32) + nI n * (8 : Int32)) + (5 : Int32)) v = _ from fun M v => sto M 5 v (by decide), b_s,
    show ∀ M v, z_sto M 10 141 (((13 : Int32) + nI n * (8 : Int32)) + (6 : Int32)) v = _ from fun M v => sto M 6 v (by decide), b_s,
    show ∀ M v, z_sto M 10 141 (((13 : Int32) + nI n * (8 : Int32)) + (7 : Int32)) v = _ from fun M v => sto M 7 v (by decide), b_s]
  have e0 : ∀ M : MM, M 10 0 = nI n → (z_ld M 10 141 (0 : Int32)).bind (fun (v127 : Int32) => (z_sto M 10 141 (0 : Int32) (v127 + (1 : Int32))).bind fun (M130 : MM) => some M130) = some (mst M 10 0 (nI (n + 1))) := by
    intro M h
    rw [show z_ld M 10 141 (0 : Int32) = some (M 10 0) from ld_ok (i := 0) (by decide), b_s, h, nI_1, show ∀ v, z_sto M 10 141 (0 : Int32) v = some (mst M 10 0 v) from fun v => sto_ok (i := 0) (by decide), b_s]
  rw [e0 _ (by rw [mst_sn _ _ _ (by omega), mst_sn _ _ _ (by omega), mst_sn _ _ _ (by omega), mst_sn _ _ _ (by omega), mst_sn _ _ _ (by omega), mst_sn _ _ _ (by omega), mst_sn _ _ _ (by omega), mst_sn _ _ _ (by omega), hc 0 (by decide), hw.2.1])]
  rfl
theorem X7_setBounds (hc : Rc c M) (hw : WF c n) {p k : Nat} (hp : p < n) (hk : 4 ≤ k) (hk2 : k ≤ 6) (u v : Int32) : f_X7_setBounds M (nI p) (nI k) u v = some (mst (mst M 10 (13 + 8 * p + k) u) 10 (13 + 8 * p + k + 1) v) := by
  have h16 := hw.1
  unfold f_X7_setBounds
  rw [X7_has_in hc hw hp, b_s, if_neg (by decide), if_neg (show ¬ nI k < (4 : Int32) from nI_nlt (b := 4) hk (by omega)), if_pos (show nI k ≤ (6 : Int32) from nI_le (b := 6) hk2 (by decide)), ix8, sto_ok (by omega), b_s, show nI (13 + 8 * p + k) + (1 : Int32) = nI (13 + 8 * p + k + 1) from nI_1 _, sto_ok (by omega), b_s]
theorem X7_setRule (v : Int32) : f_X7_setRule M v = some (mst M 10 1 v) := by
  unfold f_X7_setRule
  rw [show z_sto M 10 141 (1 : Int32) v = some (mst M 10 1 v) from sto_ok (i := 1) (by decide), b_s]
theorem X7_clearSigns : f_X7_clearSigns M = some (mst M 10 2 0) := by
  unfold f_X7_clearSigns
  rw [show z_sto M 10 141 (2 : Int32) (0 : Int32) = some (mst M 10 2 0) from sto_ok (i := 2) (by decide), b_s]
theorem X7_addSign (hc : Rc c M) {L : Nat} (hL : L < 10) (h2 : c 2 = nI L) (v : Int32) : f_X7_addSign M v = some (mst (mst M 10 (3 + L) v) 10 2 (nI (L + 1))) := by
  unfold f_X7_addSign
  rw [X7_signs hc, b_s, h2, if_neg (show ¬ (10 : Int32) ≤ nI L from nI_ge hL (by decide)), b_s, show (3 : Int32) + nI L = nI (3 + L) from nI_add 3 L, sto_ok (by omega), b_s, show ∀ M : MM, z_ld M 10 141 (2 : Int32) = some (M 10 2) from fun M => ld_ok (i := 2) (by decide), b_s, mst_sn _ _ _ (by omega), hc 2 (by decide), h2, nI_1, show ∀ (M : MM) v, z_sto M 10 141 (2 : Int32) v = some (mst M 10 2 v) from fun M v => sto_ok (i := 2) (by decide), b_s, b_s]
end X7b
