/-! lots, and the people that come by them -/
def nx (k : Nat) : Nat := (k * 1103515245 + 12345) % 2147483648
theorem nx_lt (k : Nat) : nx k < 2 ^ 31 := Nat.mod_lt _ (by decide)
theorem nI_tn (N : Nat) : (nI N).toBitVec.toNat = N % 2 ^ 32 := by
  show (BitVec.ofNat 32 N).toNat = _
  rw [BitVec.toNat_ofNat]
theorem X_nx (k : Nat) : (nI k * (1103515245 : Int32) + (12345 : Int32)) &&& (2147483647 : Int32) = nI (nx k) := by
  rw [show nI k * (1103515245 : Int32) = nI (k * 1103515245) from pk_mul k 1103515245, show nI (k * 1103515245) + (12345 : Int32) = nI (k * 1103515245 + 12345) from nI_add _ 12345, pk_and _ 31 (by decide), nI_tn]
  refine congrArg nI ?_
  unfold nx
  generalize k * 1103515245 + 12345 = N
  omega
theorem R_nx {k : Nat} (hk : k < 2 ^ 31) : ∃ v : Int64, z_rml (((nI k).toInt64 * (1103515245 : Int64)) + (12345 : Int64)) (2147483648 : Int64) = some v ∧ v.toInt32 = nI (nx k) := by
  have e : (nI k).toInt64 = lN k := by
    apply Int64.toInt_inj.mp
    rw [Int32.toInt_toInt64, ti_n hk, pk_lT (by omega)]
  refine ⟨lN (nx k), ?_, ?_⟩
  · unfold z_rml
    rw [if_neg (show ¬ (2147483648 : Int64) = 0 by decide), e, show lN k * (1103515245 : Int64) = lN (k * 1103515245) from lN_mul k 1103515245, show lN (k * 1103515245) + (12345 : Int64) = lN (k * 1103515245 + 12345) from lN_add _ 12345]
    exact congrArg some (pk_lRem (a := k * 1103515245 + 12345) (b := 2147483648) (by omega) (by decide) (by decide))
  · have := nx_lt k
    rw [ti_eq, Int64.toInt_toInt32, pk_lT (by omega), ti_n this]
    exact Int.bmod_eq_of_le (by omega) (by omega)
theorem X2_draw {M : MM} {k m : Nat} (hm : 0 < m) (hm2 : m < 2 ^ 31) (h : M 9 0 = nI k) : f_X2_draw M (nI m) = some (nI (nx k / 65536 % m), mst M 9 0 (nI (nx k))) := by
  have := nx_lt k
  have hd := Nat.div_le_self (nx k) 65536
  unfold f_X2_draw
  rw [h, X_nx, stf_ok, b_s, if_neg (show ¬ nI m ≤ 0 from nI_ge (a := 0) hm hm2 |> fun f x => f (by
    have e := (x_leK (k := 0) (by decide)).mp x
    rw [ti_n hm2] at e
    omega)), mst_ss, show z_div (nI (nx k)) (65536 : Int32) = _ from div_ok (b := 65536) this (by decide) (by decide), b_s, rem_ok (by omega) hm2 hm, b_s, b_s]
theorem R_draw {M : MM} {k m : Nat} (hk : k < 2 ^ 31) (hm : 0 < m) (hm2 : m < 2 ^ 31) (h : M 31 4 = nI k) : f_X11_draw M (nI m) = some (nI (nx k / 65536 % m), mst M 31 4 (nI (nx k))) := by
  have := nx_lt k
  have hd := Nat.div_le_self (nx k) 65536
  obtain ⟨v, e1, e2⟩ := R_nx hk
  unfold f_X11_draw
  rw [h, e1, b_s, e2, stf_ok, b_s, mst_ss, show z_div (nI (nx k)) (65536 : Int32) = _ from div_ok (b := 65536) this (by decide) (by decide), b_s, rem_ok (by omega) hm2 hm, b_s]
def par (c : Nat → Int32) (v : Int32) (f : Nat) : Int32 := if f = 0 then -1 else if c (13 + 8 * (f - 1)) = v then nI (f - 1) else -1
theorem par_ok {c : Nat → Int32} {v : Int32} {n f : Nat} (h : f ≤ n) : par c v f = -1 ∨ ∃ p, p < n ∧ par c v f = nI p := by
  unfold par
  by_cases q : f = 0
  · rw [if_pos q]; exact Or.inl rfl
  · rw [if_neg q]
    by_cases w : c (13 + 8 * (f - 1)) = v
    · rw [if_pos w]; exact Or.inr ⟨f - 1, by omega, rfl⟩
    · rw [if_neg w]; exact Or.inl rfl
section Par
variable {c : Nat → Int32} {n : Nat} {M : MM}
theorem out_m1 {n : Nat} (hn : n ≤ 16) : ¬ ∃ p, p < n ∧ nI 0 - (1 : Int32) = nI p := fun ⟨p, hp, e⟩ => nI_ne_m1 (n := p) (by omega) (e.symm.trans (by decide))
theorem in_m1 {f : Nat} (h : ¬ f = 0) : nI f - (1 : Int32) = nI (f - 1) := pk_sub (b := 1) (by omega)
theorem X_man (hc : Rc c M) (hw : WF c n) {f : Nat} (h : f ≤ n) : ∃ v, f_X7_isMan M (nI f - (1 : Int32)) = some v ∧ (if v = 0 then some (-1 : Int32) else some (nI f - (1 : Int32))) = some (par c 0 f) := by
  have h16 := hw.1
  unfold par
  by_cases q : f = 0
  · subst q
    exact ⟨0, X7_isMan_out hc hw (out_m1 h16), by rw [if_pos rfl, if_pos rfl]⟩
  · rw [in_m1 q, if_neg q]
    refine ⟨_, X7_isMan hc hw (by omega), ?_⟩
    by_cases w : c (13 + 8 * (f - 1)) = 0
    · rw [if_pos w, if_pos w, if_neg (by decide)]
    · rw [if_neg w, if_neg w, if_pos rfl]
theorem X_woman (hc : Rc c M) (hw : WF c n) {f : Nat} (h : f ≤ n) : ∃ v, f_X7_isWoman M (nI f - (1 : Int32)) = some v ∧ (if v = 0 then some (-1 : Int32) else some (nI f - (1 : Int32))) = some (par c 1 f) := by
  have h16 := hw.1
  unfold par
  by_cases q : f = 0
  · subst q
    exact ⟨0, X7_isWoman_out hc hw (out_m1 h16), by rw [if_pos rfl, if_pos rfl]⟩
  · rw [in_m1 q, if_neg q]
    refine ⟨_, X7_isWoman hc hw (by omega), ?_⟩
    by_cases w : c (13 + 8 * (f - 1)) = 1
    · rw [if_pos w, if_pos w, if_neg (by decide)]
    · rw [if_neg w, if_neg w, if_pos rfl]
theorem R_man (hs : Sw c (M 32) 0) (hw : WF c n) {f : Nat} (h : f ≤ n) : ∃ v, f_X11_isMan M (nI f - (1 : Int32)) = some v ∧ (if v = 0 then some (-1 : Int32) else some (nI f - (1 : Int32))) = some (par c 0 f) := by
  have h16 := hw.1
  unfold par
  by_cases q : f = 0
  · subst q
    exact ⟨0, R_isMan_out hs hw (out_m1 h16), by rw [if_pos rfl, if_pos rfl]⟩
  · rw [in_m1 q, if_neg q]
    refine ⟨_, R_isMan hs hw (by omega), ?_⟩
    by_cases w : c (13 + 8 * (f - 1)) = 0
    · rw [if_pos w, if_pos w, if_neg (by decide)]
    · rw [if_neg w, if_neg w, if_pos rfl]
theorem R_woman (hs : Sw c (M 32) 0) (hw : WF c n) {f : Nat} (h : f ≤ n) : ∃ v, f_X11_isWoman M (nI f - (1 : Int32)) = some v ∧ (if v = 0 then some (-1 : Int32) else some (nI f - (1 : Int32))) = some (par c 1 f) := by
  have h16 := hw.1
  unfold par
  by_cases q : f = 0
  · subst q
    exact ⟨0, R_isWoman_out hs hw (out_m1 h16), by rw [if_pos rfl, if_pos rfl]⟩
  · rw [in_m1 q, if_neg q]
    refine ⟨_, R_isWoman hs hw (by omega), ?_⟩
    by_cases w : c (13 + 8 * (f - 1)) = 1
    · rw [if_pos w, if_pos w, if_neg (by decide)]
    · rw [if_neg w, if_neg w, if_pos rfl]
end Par
def d3 (k n : Nat) : Nat := nx (nx (nx k)) / 65536 % (n + 1)
def d4 (k n : Nat) : Nat := nx (nx (nx (nx k))) / 65536 % (n + 1)
theorem d3_le (k n : Nat) : d3 k n ≤ n := by
  have := Nat.mod_lt (nx (nx (nx k)) / 65536) (show 0 < n + 1 by omega)
  unfold d3
  omega
theorem d4_le (k n : Nat) : d4 k n ≤ n := by
  have := Nat.mod_lt (nx (nx (nx (nx k))) / 65536) (show 0 < n + 1 by omega)
  unfold d4
  omega
def dst (c : Nat → Int32) (n k : Nat) : Nat → Int32 := cput c n (nI (nx k / 65536 % 2)) (parms c (nI (nx (nx k) / 65536 % 10)) (par c 0 (d3 k n))) (par c 0 (d3 k n)) (par c 1 (d4 k n))
theorem WF_dst {c : Nat → Int32} {n : Nat} (hw : WF c n) (hn : n < 16) (k : Nat) : WF (dst c n k) (n + 1) := by
  refine WF_put hw hn ?_ (parms_ok hw ⟨_, Nat.mod_lt _ (by decide), rfl⟩ (par_ok (d3_le k n))) (par_ok (d3_le k n)) (par_ok (d4_le k n))
  rcases Nat.mod_two_eq_zero_or_one (nx k / 65536) with q | q
  · rw [q]; exact Or.inl rfl
  · rw [q]; exact Or.inr rfl
theorem X2_addOne {M : MM} {c : Nat → Int32} {n k : Nat} (hc : Rc c M) (hw : WF c n) (hn : n < 16) (h : M 9 0 = nI k) : ∃ M1, f_X2_addOne M = some M1 ∧ Rc (dst c n k) M1 ∧ M1 9 0 = nI (nx (nx (nx (nx k)))) ∧ ∀ q, q ≠ 9 → q ≠ 10 → M1 q = M q := by
  have w : ∀ (M : MM) (j : Nat), Rc c M → Rc c (mst M 9 0 (nI j)) := fun M j hc => Rc_q hc (mst_n _ _ _ (by decide))
  have r1 := w M (nx k) hc
  have r2 := w _ (nx (nx k)) r1
  have r3 := w _ (nx (nx (nx k))) r2
  have r4 := w _ (nx (nx (nx (nx k)))) r3
  obtain ⟨v1, a1, a2⟩ := X_man r4 hw (d3_le k n)
  obtain ⟨v2, b1, b2⟩ := X_woman r4 hw (d4_le k n)
  unfold f_X2_addOne
  rw [show f_X2_draw M (2 : Int32) = _ from X2_draw (m := 2) (by decide) (by decide) h, b_s]
  dsimp only
  rw [show f_X2_draw (mst M 9 0 (nI (nx k))) (10 : Int32) = _ from X2_draw (m := 10) (by decide) (by decide) (mst_ss _ _ _ _), b_s]
  dsimp only
  rw [X7_people r2 hw, b_s, nI_1, X2_draw (m := n + 1) (by omega) (by omega) (mst_ss _ _ _ _), b_s]
  dsimp only
  rw [X7_people r3 hw, b_s, nI_1, X2_draw (m := n + 1) (by omega) (by omega) (mst_ss _ _ _ _), b_s]
  dsimp only
  rw [show f_X7_isMan _ (nI (nx (nx (nx k)) / 65536 % (n + 1)) - (1 : Int32)) = some v1 from a1, b_s, show (if v1 = 0 then some (-1 : Int32) else some (nI (nx (nx (nx k)) / 65536 % (n + 1)) - (1 : Int32))) = some (par c 0 (d3 k n)) from a2, b_s, show f_X7_isWoman _ (nI (nx (nx (nx (nx k))) / 65536 % (n + 1)) - (1 : Int32)) = some v2 from b1, b_s, show (if v2 = 0 then some (-1 : Int32) else some (nI (nx (nx (nx (nx k))) / 65536 % (n + 1)) - (1 : Int32))) = some (par c 1 (d4 k n)) from b2, b_s, X7_addPerson r4 hw hn (par_ok (d3_le k n)), b_s]
  refine ⟨_, rfl, Rc_put r4 n _ _ _ _, ?_, fun q a b => ?_⟩
  · rw [mput_n _ _ _ _ _ _ (by decide), mst_ss]
  · rw [mput_n _ _ _ _ _ _ b, mst_n _ _ _ a, mst_n _ _ _ a, mst_n _ _ _ a, mst_n _ _ _ a]
abbrev DS : Type := (Nat → Int32) × Nat × Nat × (Nat → Nat → Int32) × Nat
def dnx (t : DS) : DS := (dst t.1 t.2.1 t.2.2.2.2, t.2.1 + 1, dn t.2.2.1, push t.1 t.2.2.2.1, nx (nx (nx (nx t.2.2.2.2))))
def dfin : Nat → DS → DS
  | 0, t => t
  | j + 1, t => if t.2.1 < 16 then dfin j (dnx t) else t
def DW (t : DS) : Prop := WF t.1 t.2.1 ∧ PW t.2.2.1 t.2.2.2.1 ∧ t.2.2.2.2 < 2 ^ 31
theorem DW_nx {t : DS} (h : DW t) (hn : t.2.1 < 16) : DW (dnx t) := ⟨WF_dst h.1 hn _, PW_push h.1 h.2.1, nx_lt _⟩
theorem DW_fin : ∀ (j : Nat) (t : DS), DW t → DW (dfin j t)
  | 0, t, h => h
  | j + 1, t, h => by
    rw [dfin]
    by_cases q : t.2.1 < 16
    · rw [if_pos q]; exact DW_fin j _ (DW_nx h q)
    · rw [if_neg q]; exact h
theorem X_drift_L16 {X : Nat} (hX : X ≤ 16) : ∀ (j i m : Nat) (M : MM) (t : DS) (s : Nat), i + j = X → j < m → DW t → s < 20 → Rc t.1 M → PX s t.2.2.1 t.2.2.2.1 M → M 9 0 = nI t.2.2.2.2 → ∃ M1 s1, f_X10_drift_L16 m M (nI X) (nI i) = some M1 ∧ s1 < 20 ∧ Rc (dfin j t).1 M1 ∧ PX s1 (dfin j t).2.2.1 (dfin j t).2.2.2.1 M1 ∧ M1 9 0 = nI (dfin j t).2.2.2.2 ∧ ∀ q, q ∉ [7, 9, 10, 29] → M1 q = M q := by
  intro j
  induction j with
  | zero =>
    intro i m M t s hi hm hD hs hc hp h9
    obtain ⟨m, rfl⟩ : ∃ m', m = m' + 1 := ⟨m - 1, by omega⟩
    refine ⟨M, s, ?_, hs, hc, hp, h9, fun _ _ => rfl⟩
    rw [f_X10_drift_L16, if_pos (nI_le (by omega) (by omega))]
  | succ j ih =>
    intro i m M t s hi hm hD hs hc hp h9
    obtain ⟨m, rfl⟩ : ∃ m', m = m' + 1 := ⟨m - 1, by omega⟩
    rw [f_X10_drift_L16, if_neg (nI_ge (by omega) (by omega)), X7_hasRoom hc hD.1, b_s, dfin]
    by_cases q : t.2.1 < 16
    · rw [if_pos q, if_pos q, if_neg (show ¬ (1 : Int32) = 0 by decide)]
      obtain ⟨M1, e1, F1, -, c1, p1⟩ := HX_rem hc hs hD.2.1.1 hp
      obtain ⟨M2, e2, c2, k2, F2⟩ := X2_addOne c1 hD.1 q (by rw [F1 9 (by decide) (by decide)]; exact h9)
      rw [e1, b_s, e2, b_s, nI_1]
      obtain ⟨M3, s3, e3, r1, r2, r3, r4, r5⟩ := ih (i + 1) m M2 (dnx t) ((s + 1) % 20) (by omega) (by omega) (DW_nx hD q) (Nat.mod_lt _ (by decide)) c2 (PX_fr p1 (F2 25 (by decide) (by decide)) (F2 7 (by decide) (by decide)) (F2 29 (by decide) (by decide))) k2
      refine ⟨M3, s3, e3, r1, r2, r3, r4, fun z hz => ?_⟩
      have ne : ∀ k, k ∈ [7, 9, 10, 29] → z ≠ k := fun k hk e => hz (e ▸ hk)
      rw [r5 z hz, F2 z (ne 9 (by decide)) (ne 10 (by decide)), F1 z (ne 7 (by decide)) (ne 29 (by decide))]
    · rw [if_neg q, if_neg q, if_pos rfl]
      exact ⟨M, s, rfl, hs, hc, hp, h9, fun _ _ => rfl⟩
def FD (M M1 : MM) : Prop := (∀ q, q ∉ RW → M1 q = M q) ∧ (∀ i, i ≠ 3 → i ≠ 4 → i ≠ 14 → M1 31 i = M 31 i) ∧ ∀ i, 141 ≤ i → i < 423 → M1 32 i = M 32 i
theorem FD_t {M M1 M2 : MM} (h : FD M M1) (h2 : FD M1 M2) : FD M M2 := ⟨fun q hq => (h2.1 q hq).trans (h.1 q hq), fun i a b d => (h2.2.1 i a b d).trans (h.2.1 i a b d), fun i a b => (h2.2.2 i a b).trans (h.2.2 i a b)⟩
theorem FD_r {M M1 : MM} (h : FR M M1) : FD M M1 := ⟨h.1, fun i a _ b => h.2.1 i a b, h.2.2⟩
theorem FD_4 (M : MM) (v : Int32) : FD M (mst M 31 4 v) := ⟨fun q hq => mst_n _ _ _ (rw_ hq (by decide)), fun i _ b _ => mst_sn _ _ _ b, fun i _ _ => by rw [mst_n _ _ _ (by decide)]⟩
theorem R_one {M : MM} {t : DS} (hD : DW t) (hn : t.2.1 < 16) (h : HR t.1 t.2.2.1 t.2.2.2.1 M) (h4 : M 31 4 = nI t.2.2.2.2) (m : Nat) {X i : Nat} (hi : i < X) (hX : X ≤ 16) : ∃ M1, f_X11_drift_L17 (m + 1) M (nI X) (nI i) = f_X11_drift_L17 m M1 (nI X) (nI (i + 1)) ∧ HR (dnx t).1 (dnx t).2.2.1 (dnx t).2.2.2.1 M1 ∧ M1 31 4 = nI (dnx t).2.2.2.2 ∧ FD M M1 := by
  obtain ⟨c, n, d, P, k⟩ := t
  obtain ⟨hw, hP, hk⟩ := hD
  dsimp only at hw hP hk hn h h4
  obtain ⟨M1, e1, g1, f1⟩ := HR_minds hP.1 h
  have k1 : M1 31 4 = nI k := by rw [f1.2.1 4 (by decide) (by decide)]; exact h4
  have st : ∀ (M : MM) (v : Int32), HR c (dn d) (push c P) M → HR c (dn d) (push c P) (mst M 31 4 v) := fun M v h => HR_fr h (mst_sn _ _ _ (by decide)) (mst_n _ _ _ (by decide))
  have g2 := st _ (nI (nx k)) g1
  have g3 := st _ (nI (nx (nx k))) g2
  have g4 := st _ (nI (nx (nx (nx k)))) g3
  have g5 := st _ (nI (nx (nx (nx (nx k))))) g4
  obtain ⟨v1, a1, a2⟩ := R_man g5.1 hw (d3_le k n)
  obtain ⟨v2, b1, b2⟩ := R_woman g5.1 hw (d4_le k n)
  obtain ⟨M6, e6, g6, f6⟩ := R_comes (x1 := nI (nx k / 65536 % 2)) (x2 := nI (nx (nx k) / 65536 % 10)) (x4 := par c 1 (d4 k n)) hw hn g5 (par_ok (d3_le k n))
  refine ⟨M6, ?_, g6, ?_, FD_t (FD_r f1) (FD_t (FD_4 _ _) (FD_t (FD_4 _ _) (FD_t (FD_4 _ _) (FD_t (FD_4 _ _) (FD_r f6)))))⟩
  · rw [f_X11_drift_L17, if_neg (nI_ge hi (by omega)), R_n h.1 hw, b_s, if_neg (show ¬ (16 : Int32) ≤ nI n from nI_ge (b := 16) hn (by decide)), e1, b_s, show f_X11_draw M1 (2 : Int32) = _ from R_draw (m := 2) hk (by decide) (by decide) k1, b_s]
    dsimp only
    rw [show f_X11_draw (mst M1 31 4 (nI (nx k))) (10 : Int32) = _ from R_draw (m := 10) (nx_lt _) (by decide) (by decide) (mst_ss _ _ _ _), b_s]
    dsimp only
    rw [R_n g3.1 hw, b_s, nI_1, R_draw (m := n + 1) (nx_lt _) (by omega) (by omega) (mst_ss _ _ _ _), b_s]
    dsimp only
    rw [R_n g4.1 hw, b_s, nI_1, R_draw (m := n + 1) (nx_lt _) (by omega) (by omega) (mst_ss _ _ _ _), b_s]
    dsimp only
    rw [show f_X11_isMan _ (nI (nx (nx (nx k)) / 65536 % (n + 1)) - (1 : Int32)) = some v1 from a1, b_s, show (if v1 = 0 then some (-1 : Int32) else some (nI (nx (nx (nx k)) / 65536 % (n + 1)) - (1 : Int32))) = some (par c 0 (d3 k n)) from a2, b_s, show f_X11_isWoman _ (nI (nx (nx (nx (nx k))) / 65536 % (n + 1)) - (1 : Int32)) = some v2 from b1, b_s, show (if v2 = 0 then some (-1 : Int32) else some (nI (nx (nx (nx (nx k))) / 65536 % (n + 1)) - (1 : Int32))) = some (par c 1 (d4 k n)) from b2, b_s, e6, b_s, nI_1]
  · rw [f6.2.1 4 (by decide) (by decide), mst_ss]; rfl
theorem R_drift_L17 {X : Nat} (hX : X ≤ 16) : ∀ (j i m : Nat) (M : MM) (t : DS), i + j = X → j < m → DW t → HR t.1 t.2.2.1 t.2.2.2.1 M → M 31 4 = nI t.2.2.2.2 → ∃ M1, f_X11_drift_L17 m M (nI X) (nI i) = some M1 ∧ HR (dfin j t).1 (dfin j t).2.2.1 (dfin j t).2.2.2.1 M1 ∧ M1 31 4 = nI (dfin j t).2.2.2.2 ∧ FD M M1 := by
  intro j
  induction j with
  | zero =>
    intro i m M t hi hm hD h h4
    obtain ⟨m, rfl⟩ : ∃ m', m = m' + 1 := ⟨m - 1, by omega⟩
    refine ⟨M, ?_, h, h4, FD_r (FR_r M)⟩
    rw [f_X11_drift_L17, if_pos (nI_le (by omega) (by omega))]
  | succ j ih =>
    intro i m M t hi hm hD h h4
    obtain ⟨m, rfl⟩ : ∃ m', m = m' + 1 := ⟨m - 1, by omega⟩
    rw [dfin]
    by_cases q : t.2.1 < 16
    · rw [if_pos q]
      obtain ⟨M1, e1, g1, k1, f1⟩ := R_one hD q h h4 m (i := i) (X := X) (by omega) hX
      obtain ⟨M2, e2, g2, k2, f2⟩ := ih (i + 1) m M1 (dnx t) (by omega) (by omega) (DW_nx hD q) g1 k1
      exact ⟨M2, e1.trans e2, g2, k2, FD_t f1 f2⟩
    · rw [if_neg q]
      refine ⟨M, ?_, h, h4, FD_r (FR_r M)⟩
      have h16 := hD.1.1
      rw [f_X11_drift_L17, if_neg (nI_ge (by omega) (by omega)), R_n h.1 hD.1, b_s, if_pos (show (16 : Int32) ≤ nI t.2.1 from nI_le (a := 16) (by omega) (by omega))]
theorem op_drift_ok : op_drift JJ := by
  intro M hJ a0
  obtain ⟨⟨c, n, hw, hc, hs, hx, hy⟩, ⟨s, d, P, hsd, hPW, hPX, hPR⟩, hI, hS, hB⟩ := id hJ
  by_cases h : 1 ≤ a0.toInt ∧ a0.toInt ≤ 16
  · obtain ⟨X, hX, rfl⟩ := x_nat (x := a0) (k := 17) (by omega) (by omega) (by decide)
    rw [ti_n (by omega)] at h
    obtain ⟨k, hk, ek⟩ : ∃ k : Nat, k < 2 ^ 31 ∧ M 9 0 = nI k := by
      obtain ⟨k, h1, h2⟩ := nI_of (x := M 9 0) (by
        intro x
        rw [x_lt0] at x
        have := ti_le.mp hS.2
        have z : (0 : Int32).toInt = 0 := by decide
        omega)
      exact ⟨k, h1, h2⟩
    have hD : DW (c, n, d, P, k) := ⟨hw, hPW, hk⟩
    obtain ⟨M1, s1, e1, r1, r2, r3, r4, r5⟩ := X_drift_L16 (X := X) (by omega) X 0 FU M (c, n, d, P, k) s (by omega) (by unfold FU; omega) hD hsd hc hPX ek
    have hD2 := DW_fin X _ hD
    obtain ⟨M2, e2, x2, y2, F2⟩ := X_all hD2.1 r2
    have g : ∀ q, q ∉ 9 :: CW → M2 q = M q := fun q hq => by
      rw [F2 q (fun x => hq ((show ∀ k, k ∈ [2, 3, 11, 12, 13, 14, 15, 16, 17, 18] → k ∈ 9 :: CW by decide) q x)), r5 q (fun x => hq ((show ∀ k, k ∈ [7, 9, 10, 29] → k ∈ 9 :: CW by decide) q x))]
    have hx2 : HX (dfin X (c, n, d, P, k)).1 (dfin X (c, n, d, P, k)).2.1 s1 (dfin X (c, n, d, P, k)).2.2.1 (dfin X (c, n, d, P, k)).2.2.2.1 M2 := ⟨hD2.1, r1, hD2.2.1, Rc_q r2 (F2 10 (by decide)), x2, y2, PX_fr r3 (F2 25 (by decide)) (F2 7 (by decide)) (F2 29 (by decide))⟩
    have hr2 : HR c d P M2 := HR_fr ⟨hs, hPR⟩ (by rw [g 31 (by decide)]) (g 32 (by decide))
    obtain ⟨M3, e3, g3, k3, f3⟩ := R_drift_L17 (X := X) (by omega) X 0 FU M2 (c, n, d, P, k) (by omega) (by unfold FU; omega) hD hr2 (by rw [g 31 (by decide), hS.1]; exact ek)
    have k9 : M3 9 0 = nI (dfin X (c, n, d, P, k)).2.2.2.2 := by rw [f3.1 9 (by decide), F2 9 (by decide)]; exact r4
    refine ⟨(nI (dfin X (c, n, d, P, k)).2.1, M2), ?_, (nI (dfin X (c, n, d, P, k)).2.1, M3), ?_, rfl, JJ_mk hI hB (Or.inr g) hx2 (Or.inr f3) g3 ⟨k3.trans k9.symm, ?_⟩⟩
    · unfold f_X10_drift
      rw [if_neg (show ¬ nI X < (1 : Int32) from fun x => by
        have := (x_ltK (k := 1) (by decide)).mp x
        rw [ti_n (by omega)] at this
        omega), if_pos (show nI X ≤ (16 : Int32) from nI_le (b := 16) (by omega) (by decide)), show f_X10_drift_L16 FU M (nI X) (0 : Int32) = some M1 from e1, b_s, e2, b_s, X7_people (Rc_q r2 (F2 10 (by decide))) hD2.1, b_s]
    · show f_X11_drift M2 (nI X) = _
      unfold f_X11_drift
      rw [R_ini (a := 1) (b := 16) _ _ _ _ (by decide) (by decide), b_s, if_pos (show 1 ≤ (nI X).toInt ∧ (nI X).toInt ≤ 16 by rw [ti_n (by omega)]; exact h), if_neg (show ¬ (1 : Int32) = 0 by decide), show f_X11_drift_L17 FU M2 (nI X) (0 : Int32) = some M3 from e3, b_s, R_n g3.1 hD2.1, b_s]
    · show 0 ≤ M3 9 0
      rw [k9, ti_le, ti_n hD2.2.2]
      show (0 : Int) ≤ _
      omega
  · refine ⟨(-1000000002, M), ?_, (-1000000002, M), ?_, rfl, hJ⟩
    · unfold f_X10_drift
      by_cases n0 : a0 < (1 : Int32)
      · rw [if_pos n0]
      · rw [if_neg n0, if_neg (show ¬ a0 ≤ (16 : Int32) from fun x => by
          have := (x_leK (k := 16) (by decide)).mp x
          have z : ¬ a0.toInt < ((1 : Nat) : Int) := fun q => n0 ((x_ltK (k := 1) (by decide)).mpr q)
          omega)]
    · show f_X11_drift M a0 = _
      unfold f_X11_drift
      rw [R_ini (a := 1) (b := 16) _ _ _ _ (by decide) (by decide), b_s, if_neg h, if_pos rfl]
