/-! deeds that write -/
def CW : List Nat := [2, 3, 5, 7, 10, 11, 12, 13, 14, 15, 16, 17, 18, 19, 20, 21, 29]
theorem cw {q k : Nat} (h : q ∉ CW) (hk : k ∈ CW) : q ≠ k := fun e => h (e ▸ hk)
def FX (M M1 : MM) : Prop := ∀ q, q ∉ CW → M1 q = M q
theorem FX_t {M M1 M2 : MM} (h : FX M M1) (h2 : FX M1 M2) : FX M M2 := fun q hq => (h2 q hq).trans (h q hq)
def RW : List Nat := [31, 32, 38, 39, 40, 41, 42, 43, 44, 45]
theorem rw_ {q k : Nat} (h : q ∉ RW) (hk : k ∈ RW) : q ≠ k := fun e => h (e ▸ hk)
def FR (M M1 : MM) : Prop := (∀ q, q ∉ RW → M1 q = M q) ∧ (∀ i, i ≠ 3 → i ≠ 14 → M1 31 i = M 31 i) ∧ ∀ i, 141 ≤ i → i < 423 → M1 32 i = M 32 i
theorem FR_r (M : MM) : FR M M := ⟨fun _ _ => rfl, fun _ _ _ => rfl, fun _ _ _ => rfl⟩
theorem FR_t {M M1 M2 : MM} (h : FR M M1) (h2 : FR M1 M2) : FR M M2 := ⟨fun q hq => (h2.1 q hq).trans (h.1 q hq), fun i a b => (h2.2.1 i a b).trans (h.2.1 i a b), fun i a b => (h2.2.2 i a b).trans (h.2.2 i a b)⟩
def HX (c : Nat → Int32) (n s d : Nat) (P : Nat → Nat → Int32) (M : MM) : Prop := WF c n ∧ s < 20 ∧ PW d P ∧ Rc c M ∧ CoatsX c n M ∧ YX c n M ∧ PX s d P M
def HR (c : Nat → Int32) (d : Nat) (P : Nat → Nat → Int32) (M : MM) : Prop := Sw c (M 32) 0 ∧ PR d P M
theorem JJ_mk {M M1 M2 : MM} {c : Nat → Int32} {n s d : Nat} {P : Nat → Nat → Int32} (hI : JI M) (hB : JB M) (f1 : FX M M1 ∨ ∀ q, q ∉ 9 :: CW → M1 q = M q) (hx : HX c n s d P M1) (f2 : FR M1 M2 ∨ ((∀ q, q ∉ RW → M2 q = M1 q) ∧ (∀ i, i ≠ 3 → i ≠ 4 → i ≠ 14 → M2 31 i = M1 31 i) ∧ ∀ i, 141 ≤ i → i < 423 → M2 32 i = M1 32 i)) (hr : HR c d P M2) (hS : JS M2) : JJ M2 := by
  obtain ⟨h1, h2, h3, h4, h5, h6, h7⟩ := hx
  have a : ∀ q, q ∉ 9 :: CW → M1 q = M q := f1.elim (fun f q hq => f q (fun x => hq (List.mem_cons_of_mem _ x))) id
  have b : (∀ q, q ∉ RW → M2 q = M1 q) ∧ (∀ i, i ≠ 3 → i ≠ 4 → i ≠ 14 → M2 31 i = M1 31 i) ∧ ∀ i, 141 ≤ i → i < 423 → M2 32 i = M1 32 i := f2.elim (fun f => ⟨f.1, fun i x _ y => f.2.1 i x y, f.2.2⟩) id
  obtain ⟨b1, b2, b3⟩ := b
  have ab : ∀ q, q ∉ 9 :: CW → q ∉ RW → M2 q = M q := fun q x y => (b1 q y).trans (a q x)
  refine ⟨⟨c, n, h1, fun i hi => ?_, hr.1, CoatsX_fr h5 (b1 2 (by decide)) (b1 11 (by decide)) (b1 12 (by decide)) (b1 13 (by decide)), YX_fr h6 (b1 3 (by decide)) (b1 14 (by decide)) (b1 15 (by decide))⟩, ⟨s, d, P, h2, h3, PX_fr h7 (b1 25 (by decide)) (b1 7 (by decide)) (b1 29 (by decide)), hr.2⟩, JI_fr hI (ab 26 (by decide) (by decide)) (ab 27 (by decide) (by decide)) (ab 28 (by decide) (by decide)) (ab 30 (by decide) (by decide)) (ab 33 (by decide) (by decide)) (ab 34 (by decide) (by decide)) (fun i x y => (b3 i x y).trans (by rw [a 32 (by decide)])), hS, JB_fr hB (ab 6 (by decide) (by decide)) (ab 22 (by decide) (by decide)) (ab 23 (by decide) (by decide)) (ab 24 (by decide) (by decide)) (ab 35 (by decide) (by decide)) (ab 36 (by decide) (by decide)) (ab 37 (by decide) (by decide)) ((b2 5 (by decide) (by decide) (by decide)).trans (by rw [a 31 (by decide)]))⟩
  rw [b1 10 (by decide)]; exact h4 i hi
theorem JJ_push {M M1 M2 : MM} {c : Nat → Int32} {n s d : Nat} {P : Nat → Nat → Int32} (h : JJ M) (f1 : FX M M1) (hx : HX c n s d P M1) (f2 : FR M1 M2) (hr : HR c d P M2) : JJ M2 := by
  obtain ⟨-, -, hI, hS, hB⟩ := h
  refine JJ_mk hI hB (Or.inl f1) hx (Or.inl f2) hr ⟨?_, ?_⟩
  · rw [f2.2.1 4 (by decide) (by decide), f1 31 (by decide), f2.1 9 (by decide), f1 9 (by decide)]; exact hS.1
  · rw [f2.1 9 (by decide), f1 9 (by decide)]; exact hS.2
theorem HR_sto {M : MM} {c : Nat → Int32} {d : Nat} {P : Nat → Nat → Int32} (h : HR c d P M) {j k : Nat} (hj : j < 141) (e : rix j = k) (v : Int32) : HR (upd c j v) d P (mst M 32 k v) ∧ FR M (mst M 32 k v) := by
  have hk := rix_lt j hj
  subst e
  refine ⟨⟨?_, PR_fr h.2 ?_ (fun i hi => mst_sn _ _ _ (by omega))⟩, fun q hq => mst_n _ _ _ (rw_ hq (by decide)), fun i _ _ => ?_, fun i a b => mst_sn _ _ _ (by omega)⟩
  · rw [mst_s]; exact Sw_upd h.1 hj v
  · rw [mst_n _ _ _ (by decide)]
  · rw [mst_n _ _ _ (by decide)]
theorem HR_minds {M : MM} {c : Nat → Int32} {d : Nat} {P : Nat → Nat → Int32} (hd : d ≤ 20) (h : HR c d P M) : ∃ M1, f_X11_minds M = some M1 ∧ HR c (dn d) (push c P) M1 ∧ FR M M1 := by
  obtain ⟨M1, e1, k1, k2, k3, k4⟩ := R_minds h.1 hd h.2
  exact ⟨M1, e1, ⟨Sw_fr h.1 (fun i _ b => k3 i (by omega)), k4⟩, fun q hq => k1 q (rw_ hq (by decide)) (rw_ hq (by decide)), fun i a _ => k2 i a, fun i _ b => k3 i (by omega)⟩
theorem HR_fr {M M1 : MM} {c : Nat → Int32} {d : Nat} {P : Nat → Nat → Int32} (h : HR c d P M) (a : M1 31 3 = M 31 3) (b : M1 32 = M 32) : HR c d P M1 := ⟨by rw [b]; exact h.1, PR_fr h.2 a (fun i _ => by rw [b])⟩
theorem FR_c {M M1 : MM} (F : ∀ q, q ≠ 38 → q ≠ 39 → q ≠ 40 → M1 q = M q) : FR M M1 := ⟨fun q hq => F q (rw_ hq (by decide)) (rw_ hq (by decide)) (rw_ hq (by decide)), fun i _ _ => by rw [F 31 (by decide) (by decide) (by decide)], fun i _ _ => by rw [F 32 (by decide) (by decide) (by decide)]⟩
theorem FR_n {M M1 : MM} (F : FrN M M1) : FR M M1 := ⟨fun q hq => F.1 q (rw_ hq (by decide)) (rw_ hq (by decide)) (rw_ hq (by decide)), fun i _ b => F.2 i b, fun i _ _ => by rw [F.1 32 (by decide) (by decide) (by decide)]⟩
theorem HX_rem {M : MM} {c : Nat → Int32} {s d : Nat} {P : Nat → Nat → Int32} (hc : Rc c M) (hs : s < 20) (hd : d ≤ 20) (h : PX s d P M) : ∃ M1, f_X5_remember M = some M1 ∧ (∀ q, q ≠ 7 → q ≠ 29 → M1 q = M q) ∧ FX M M1 ∧ Rc c M1 ∧ PX ((s + 1) % 20) (dn d) (push c P) M1 := by
  obtain ⟨M1, e1, F1, p1⟩ := X5_remember hc hs hd h
  exact ⟨M1, e1, F1, fun q hq => F1 q (cw hq (by decide)) (cw hq (by decide)), fun i hi => by rw [F1 10 (by decide) (by decide)]; exact hc i hi, p1⟩
section Congr
variable {c c' : Nat → Int32} {n : Nat}
theorem WFp_c (h : ∀ i, 13 ≤ i → c' i = c i) {p : Nat} (hw : WFp c p) : WFp c' p := by
  have h0 : c' (13 + 8 * p) = c (13 + 8 * p) := h _ (by omega)
  have hk : ∀ k, c' (13 + 8 * p + k) = c (13 + 8 * p + k) := fun k => h _ (by omega)
  unfold WFp
  simp only [h0, hk]
  exact hw
theorem Feas_c (h : ∀ i, 13 ≤ i → c' i = c i) : Feas c' n = Feas c n := by
  have hk : ∀ p k, c' (13 + 8 * p + k) = c (13 + 8 * p + k) := fun p k => h _ (by omega)
  have hg : ∀ p, gp c' p = gp c p := fun p => by unfold gp; simp only [hk]
  have hl : ∀ p, gl c' p = gl c p := fun p => by
    induction p with
    | zero => rfl
    | succ p ih => show gl c' p ++ gp c' p = gl c p ++ gp c p; rw [ih, hg]
  have h1 : ylo c' = ylo c := by funext m; unfold ylo; rw [hk]
  have h2 : yhi c' = yhi c := by funext m; unfold yhi; rw [hk]
  funext x
  unfold Feas
  rw [hl, h1, h2]
theorem YX_c (h : ∀ i, 13 ≤ i → c' i = c i) {M : MM} (hy : YX c n M) : YX c' n M := by
  unfold YX LstF GrtF
  rw [Feas_c h]
  exact hy
theorem CoatsX_c (h : ∀ i, 13 ≤ i → c' i = c i) (h1 : c' 1 = c 1) {M : MM} (hx : CoatsX c n M) : CoatsX c' n M := by
  have h0 : ∀ p, c' (13 + 8 * p) = c (13 + 8 * p) := fun p => h _ (by omega)
  have hk : ∀ p k, c' (13 + 8 * p + k) = c (13 + 8 * p + k) := fun p k => h _ (by omega)
  have hh : heirB c' n = heirB c n := by
    funext p
    rw [Bool.eq_iff_iff, heirB_t, heirB_t]
    unfold heir
    simp only [h0, hk]
  have hq : ∀ T p, qof c' n T p = qof c n T p := fun T p => by
    unfold qof
    simp only [hk, h1, hh]
  have ht : ∀ p, QT c' n p = QT c n p := fun p => by
    induction p with
    | zero => rfl
    | succ p ih =>
      show (fun j => if j = p then qof c' n (QT c' n p) p else QT c' n p j) = fun j => if j = p then qof c n (QT c n p) p else QT c n p j
      rw [ih, hq]
  unfold CoatsX QQ
  simp only [hh, ht]
  exact hx
end Congr
theorem op_tear_ok : op_tear JJ := by
  intro M hJ
  obtain ⟨hC, hP, hI, hS, ⟨bw, bp, ba, e, hb, hb6, hb5, hbx, hbr⟩⟩ := id hJ
  refine ⟨(nI e, mst M 6 3 0), ?_, (nI e, mst (mst M 6 3 0) 31 5 0), ?_, rfl, ?_⟩
  · unfold f_X10_tear
    rw [stf_ok, b_s, hb6]
  · show f_X11_tear (mst M 6 3 0) = _
    unfold f_X11_tear
    rw [stf_ok, b_s, mst_n _ _ _ (by decide), hb5]
  · show JJ (mst (mst M 6 3 0) 31 5 0)
    obtain ⟨c, n, hC⟩ := hC
    have f : ∀ q, q ≠ 6 → q ≠ 31 → mst (mst M 6 3 0) 31 5 0 q = M q := fun q a b => by rw [mst_n _ _ _ b, mst_n _ _ _ a]
    have g : ∀ i, i ≠ 5 → mst (mst M 6 3 0) 31 5 0 31 i = M 31 i := fun i hi => by rw [mst_sn _ _ _ hi, mst_n _ _ _ (by decide)]
    have f32 := f 32 (by decide) (by decide)
    refine ⟨⟨c, n, hC.1, fun i hi => by rw [f 10 (by decide) (by decide)]; exact hC.2.1 i hi, by rw [f32]; exact hC.2.2.1, CoatsX_fr hC.2.2.2.1 (f 2 (by decide) (by decide)) (f 11 (by decide) (by decide)) (f 12 (by decide) (by decide)) (f 13 (by decide) (by decide)), YX_fr hC.2.2.2.2 (f 3 (by decide) (by decide)) (f 14 (by decide) (by decide)) (f 15 (by decide) (by decide))⟩, JP_fr hP (f 25 (by decide) (by decide)) (f 7 (by decide) (by decide)) (f 29 (by decide) (by decide)) f32 (g 3 (by decide)), JI_fr hI (f 26 (by decide) (by decide)) (f 27 (by decide) (by decide)) (f 28 (by decide) (by decide)) (f 30 (by decide) (by decide)) (f 33 (by decide) (by decide)) (f 34 (by decide) (by decide)) (fun i _ _ => by rw [f32]), JS_fr hS (f 9 (by decide) (by decide)) (g 4 (by decide)), bw, bp, ba, 0, ⟨by decide, fun i hi => absurd hi (Nat.not_lt_zero i)⟩, ?_, (mst_ss _ _ _ _).trans rfl, fun i hi => absurd hi (Nat.not_lt_zero i), fun i hi => absurd hi (Nat.not_lt_zero i)⟩
    rw [mst_n _ _ _ (by decide), mst_ss]; rfl
theorem op_seed_ok : op_seed JJ := by
  intro M hJ a0
  obtain ⟨hC, hP, hI, hS, hB⟩ := id hJ
  by_cases h : 0 ≤ a0
  · refine ⟨(M 9 0, mst M 9 0 a0), ?_, (M 9 0, mst (mst M 9 0 a0) 31 4 a0), ?_, rfl, ?_⟩
    · unfold f_X10_seed
      rw [if_pos h, stf_ok, b_s]
    · show f_X11_seed (mst M 9 0 a0) a0 = _
      unfold f_X11_seed
      rw [if_pos h, stf_ok, b_s, mst_n _ _ _ (by decide), hS.1]
    · show JJ (mst (mst M 9 0 a0) 31 4 a0)
      obtain ⟨c, n, hC⟩ := hC
      have f : ∀ q, q ≠ 9 → q ≠ 31 → mst (mst M 9 0 a0) 31 4 a0 q = M q := fun q a b => by rw [mst_n _ _ _ b, mst_n _ _ _ a]
      have g : ∀ i, i ≠ 4 → mst (mst M 9 0 a0) 31 4 a0 31 i = M 31 i := fun i hi => by rw [mst_sn _ _ _ hi, mst_n _ _ _ (by decide)]
      have f32 := f 32 (by decide) (by decide)
      refine ⟨⟨c, n, hC.1, fun i hi => by rw [f 10 (by decide) (by decide)]; exact hC.2.1 i hi, by rw [f32]; exact hC.2.2.1, CoatsX_fr hC.2.2.2.1 (f 2 (by decide) (by decide)) (f 11 (by decide) (by decide)) (f 12 (by decide) (by decide)) (f 13 (by decide) (by decide)), YX_fr hC.2.2.2.2 (f 3 (by decide) (by decide)) (f 14 (by decide) (by decide)) (f 15 (by decide) (by decide))⟩, JP_fr hP (f 25 (by decide) (by decide)) (f 7 (by decide) (by decide)) (f 29 (by decide) (by decide)) f32 (g 3 (by decide)), JI_fr hI (f 26 (by decide) (by decide)) (f 27 (by decide) (by decide)) (f 28 (by decide) (by decide)) (f 30 (by decide) (by decide)) (f 33 (by decide) (by decide)) (f 34 (by decide) (by decide)) (fun i _ _ => by rw [f32]), ⟨?_, ?_⟩, JB_fr hB (f 6 (by decide) (by decide)) (f 22 (by decide) (by decide)) (f 23 (by decide) (by decide)) (f 24 (by decide) (by decide)) (f 35 (by decide) (by decide)) (f 36 (by decide) (by decide)) (f 37 (by decide) (by decide)) (g 5 (by decide))⟩
      · rw [mst_ss, mst_n _ _ _ (by decide), mst_ss]
      · rw [mst_n _ _ _ (by decide), mst_ss]; exact h
  · refine ⟨(-1000000002, M), ?_, (-1000000002, M), ?_, rfl, hJ⟩
    · unfold f_X10_seed
      rw [if_neg h]
    · show f_X11_seed M a0 = _
      unfold f_X11_seed
      rw [if_neg h]
theorem isArms (M : MM) (x : Int32) : f_X10_isArms M x = some (if 0 ≤ x.toInt ∧ x.toInt ≤ 9 then 1 else 0) := by
  unfold f_X10_isArms
  by_cases h0 : x < 0
  · rw [if_pos h0, b_s, rz0, if_neg (fun q => by rw [x_lt0] at h0; omega)]
  · rw [if_neg h0]
    by_cases h1 : (10 : Int32) ≤ x
    · rw [if_pos h1, b_s, rz0, if_neg (fun q => by have := (x_geK (k := 10) (by decide)).mp h1; omega)]
    · rw [if_neg h1, b_s, rz1, if_pos]
      rw [x_lt0] at h0
      have : ¬ ((10 : Nat) : Int) ≤ x.toInt := fun q => h1 ((x_geK (k := 10) (by decide)).mpr q)
      omega
theorem op_write_ok : op_write JJ := by
  intro M hJ a0 a1 a2
  obtain ⟨⟨c, n, hC⟩, hP, hI, hS, ⟨bw, bp, ba, e, hb, hb6, hb5, hbx, hbr⟩⟩ := id hJ
  obtain ⟨hw, hc, hs, -⟩ := id hC
  have h16 := hw.1
  have he := hb.1
  have bad : ∀ v : Int32, f_X10_write M a0 a1 a2 = some (v, M) → f_X11_write M a0 a1 a2 = some (v, M) → ∃ s1 : Int32 × MM, f_X10_write M a0 a1 a2 = some s1 ∧ ∃ s2 : Int32 × MM, f_X11_write s1.2 a0 a1 a2 = some s2 ∧ s1.1 = s2.1 ∧ JJ s2.2 := fun v x y => ⟨(v, M), x, (v, M), y, rfl, hJ⟩
  by_cases hp : ∃ p, p < n ∧ a0 = nI p
  · obtain ⟨p, hp, rfl⟩ := hp
    by_cases h1 : 0 ≤ a1.toInt ∧ a1.toInt ≤ 9
    · have n0 : ¬ a1 < 0 := fun x => by rw [x_lt0] at x; omega
      have n10 : ¬ (10 : Int32) ≤ a1 := fun x => by have := (x_geK (k := 10) (by decide)).mp x; omega
      by_cases h2 : 0 ≤ a2.toInt ∧ a2.toInt ≤ 9
      · by_cases h3 : e = 20
        · refine bad (-1000000004) ?_ ?_
          · unfold f_X10_write
            rw [X7_has_in hc hw hp, b_s, if_neg (show ¬ (1 : Int32) = 0 by decide), if_neg n0, if_neg n10, isArms, b_s, if_pos h2, if_neg (show ¬ (1 : Int32) = 0 by decide), hb6, h3, if_neg (by decide)]
          · unfold f_X11_write
            rw [R_isOne_in hs hw hp, b_s, if_neg (show ¬ (1 : Int32) = 0 by decide), R_ini (a := 0) (b := 9) _ _ _ _ (by decide) (by decide), b_s, if_pos h1, if_neg (show ¬ (1 : Int32) = 0 by decide), R_ini (a := 0) (b := 9) _ _ _ _ (by decide) (by decide), b_s, if_pos h2, if_neg (show ¬ (1 : Int32) = 0 by decide), hb5, h3, if_pos (by decide)]
        · have he1 : e < 20 := by omega
          refine ⟨(nI (e + 1), mst (mst (mst (mst M 22 e (nI p)) 23 e a1) 24 e a2) 6 3 (nI (e + 1))), ?_, (nI (e + 1), mst (mst (mst (mst (mst (mst (mst (mst M 22 e (nI p)) 23 e a1) 24 e a2) 6 3 (nI (e + 1))) 35 e (nI p)) 36 e a1) 37 e a2) 31 5 (nI (e + 1))), ?_, rfl, ?_⟩
          · unfold f_X10_write f_X0_addEntry
            rw [X7_has_in hc hw hp, b_s, if_neg (show ¬ (1 : Int32) = 0 by decide), if_neg n0, if_neg n10, isArms, b_s, if_pos h2, if_neg (show ¬ (1 : Int32) = 0 by decide), hb6, if_pos (show nI e < (20 : Int32) from (x_ltK (k := 20) (by decide)).mpr (by rw [ti_n (by omega)]; omega)), if_neg (show ¬ (20 : Int32) ≤ nI e from nI_ge (b := 20) he1 (by decide)), sto_ok he1, b_s, mst_n _ _ _ (by decide), hb6, sto_ok he1, b_s, mst_n _ _ _ (by decide), mst_n _ _ _ (by decide), hb6, sto_ok he1, b_s, mst_n _ _ _ (by decide), mst_n _ _ _ (by decide), mst_n _ _ _ (by decide), hb6, nI_1, stf_ok, b_s, b_s, b_s, mst_ss]
          · show f_X11_write (mst (mst (mst (mst M 22 e (nI p)) 23 e a1) 24 e a2) 6 3 (nI (e + 1))) (nI p) a1 a2 = _
            have f : ∀ q, q ≠ 6 → q ≠ 22 → q ≠ 23 → q ≠ 24 → mst (mst (mst (mst M 22 e (nI p)) 23 e a1) 24 e a2) 6 3 (nI (e + 1)) q = M q := fun q a b d g => by rw [mst_n _ _ _ a, mst_n _ _ _ g, mst_n _ _ _ d, mst_n _ _ _ b]
            generalize hM : mst (mst (mst (mst M 22 e (nI p)) 23 e a1) 24 e a2) 6 3 (nI (e + 1)) = N at f
            have hsN : Sw c (N 32) 0 := by rw [f 32 (by decide) (by decide) (by decide) (by decide)]; exact hs
            have h5N : N 31 5 = nI e := by rw [f 31 (by decide) (by decide) (by decide) (by decide)]; exact hb5
            unfold f_X11_write
            rw [R_isOne_in hsN hw hp, b_s, if_neg (show ¬ (1 : Int32) = 0 by decide), R_ini (a := 0) (b := 9) _ _ _ _ (by decide) (by decide), b_s, if_pos h1, if_neg (show ¬ (1 : Int32) = 0 by decide), R_ini (a := 0) (b := 9) _ _ _ _ (by decide) (by decide), b_s, if_pos h2, if_neg (show ¬ (1 : Int32) = 0 by decide), h5N, if_neg (show ¬ nI e = (20 : Int32) from fun x => h3 (nI_inj (b := 20) (by omega) (by decide) x)), sto_ok he1, b_s, mst_n _ _ _ (by decide), h5N, sto_ok he1, b_s, mst_n _ _ _ (by decide), mst_n _ _ _ (by decide), h5N, sto_ok he1, b_s, mst_n _ _ _ (by decide), mst_n _ _ _ (by decide), mst_n _ _ _ (by decide), h5N, nI_1, stf_ok, b_s, mst_ss]
          · show JJ (mst (mst (mst (mst (mst (mst (mst (mst M 22 e (nI p)) 23 e a1) 24 e a2) 6 3 (nI (e + 1))) 35 e (nI p)) 36 e a1) 37 e a2) 31 5 (nI (e + 1)))
            have f : ∀ q, q ≠ 6 → q ≠ 22 → q ≠ 23 → q ≠ 24 → q ≠ 31 → q ≠ 35 → q ≠ 36 → q ≠ 37 → mst (mst (mst (mst (mst (mst (mst (mst M 22 e (nI p)) 23 e a1) 24 e a2) 6 3 (nI (e + 1))) 35 e (nI p)) 36 e a1) 37 e a2) 31 5 (nI (e + 1)) q = M q := fun q a b d g i j k l => by rw [mst_n _ _ _ i, mst_n _ _ _ l, mst_n _ _ _ k, mst_n _ _ _ j, mst_n _ _ _ a, mst_n _ _ _ g, mst_n _ _ _ d, mst_n _ _ _ b]
            have g : ∀ i, i ≠ 5 → mst (mst (mst (mst (mst (mst (mst (mst M 22 e (nI p)) 23 e a1) 24 e a2) 6 3 (nI (e + 1))) 35 e (nI p)) 36 e a1) 37 e a2) 31 5 (nI (e + 1)) 31 i = M 31 i := fun i hi => by rw [mst_sn _ _ _ hi, mst_n _ _ _ (by decide), mst_n _ _ _ (by decide), mst_n _ _ _ (by decide), mst_n _ _ _ (by decide), mst_n _ _ _ (by decide), mst_n _ _ _ (by decide), mst_n _ _ _ (by decide)]
            have hb' : JB (mst (mst (mst (mst (mst (mst (mst (mst M 22 e (nI p)) 23 e a1) 24 e a2) 6 3 (nI (e + 1))) 35 e (nI p)) 36 e a1) 37 e a2) 31 5 (nI (e + 1))) := by
              refine ⟨upd bw e (nI p), upd bp e a1, upd ba e a2, e + 1, ⟨by omega, fun i hi => ?_⟩, ?_, mst_ss _ _ _ _, fun i hi => ?_, fun i hi => ?_⟩
              · by_cases q : i = e
                · subst q
                  rw [upd_s, upd_s, upd_s]
                  exact ⟨⟨p, by omega, rfl⟩, x_nat h1.1 (by omega) (by decide), x_nat h2.1 (by omega) (by decide)⟩
                · rw [upd_n _ _ q, upd_n _ _ q, upd_n _ _ q]; exact hb.2 i (by omega)
              · rw [mst_n _ _ _ (by decide), mst_n _ _ _ (by decide), mst_n _ _ _ (by decide), mst_n _ _ _ (by decide), mst_ss]
              · rw [mst_n _ _ _ (show 22 ≠ 31 by decide), mst_n _ _ _ (show 22 ≠ 37 by decide), mst_n _ _ _ (show 22 ≠ 36 by decide), mst_n _ _ _ (show 22 ≠ 35 by decide), mst_n _ _ _ (show 22 ≠ 6 by decide), mst_n _ _ _ (show 22 ≠ 24 by decide), mst_n _ _ _ (show 22 ≠ 23 by decide), mst_s,
                  mst_n _ _ _ (show 23 ≠ 31 by decide), mst_n _ _ _ (show 23 ≠ 37 by decide), mst_n _ _ _ (show 23 ≠ 36 by decide), mst_n _ _ _ (show 23 ≠ 35 by decide), mst_n _ _ _ (show 23 ≠ 6 by decide), mst_n _ _ _ (show 23 ≠ 24 by decide), mst_s, mst_n _ _ _ (show 23 ≠ 22 by decide),
                  mst_n _ _ _ (show 24 ≠ 31 by decide), mst_n _ _ _ (show 24 ≠ 37 by decide), mst_n _ _ _ (show 24 ≠ 36 by decide), mst_n _ _ _ (show 24 ≠ 35 by decide), mst_n _ _ _ (show 24 ≠ 6 by decide), mst_s, mst_n _ _ _ (show 24 ≠ 23 by decide), mst_n _ _ _ (show 24 ≠ 22 by decide)]
                by_cases q : i = e
                · subst q
                  rw [upd_s, upd_s, upd_s, upd_s, upd_s, upd_s]
                  exact ⟨rfl, rfl, rfl⟩
                · rw [upd_n _ _ q, upd_n _ _ q, upd_n _ _ q, upd_n _ _ q, upd_n _ _ q, upd_n _ _ q]; exact hbx i (by omega)
              · rw [mst_n _ _ _ (show 35 ≠ 31 by decide), mst_n _ _ _ (show 35 ≠ 37 by decide), mst_n _ _ _ (show 35 ≠ 36 by decide), mst_s, mst_n _ _ _ (show 35 ≠ 6 by decide), mst_n _ _ _ (show 35 ≠ 24 by decide), mst_n _ _ _ (show 35 ≠ 23 by decide), mst_n _ _ _ (show 35 ≠ 22 by decide),
                  mst_n _ _ _ (show 36 ≠ 31 by decide), mst_n _ _ _ (show 36 ≠ 37 by decide), mst_s, mst_n _ _ _ (show 36 ≠ 35 by decide), mst_n _ _ _ (show 36 ≠ 6 by decide), mst_n _ _ _ (show 36 ≠ 24 by decide), mst_n _ _ _ (show 36 ≠ 23 by decide), mst_n _ _ _ (show 36 ≠ 22 by decide),
                  mst_n _ _ _ (show 37 ≠ 31 by decide), mst_s, mst_n _ _ _ (show 37 ≠ 36 by decide), mst_n _ _ _ (show 37 ≠ 35 by decide), mst_n _ _ _ (show 37 ≠ 6 by decide), mst_n _ _ _ (show 37 ≠ 24 by decide), mst_n _ _ _ (show 37 ≠ 23 by decide), mst_n _ _ _ (show 37 ≠ 22 by decide)]
                by_cases q : i = e
                · subst q
                  rw [upd_s, upd_s, upd_s, upd_s, upd_s, upd_s]
                  exact ⟨rfl, rfl, rfl⟩
                · rw [upd_n _ _ q, upd_n _ _ q, upd_n _ _ q, upd_n _ _ q, upd_n _ _ q, upd_n _ _ q]; exact hbr i (by omega)
            generalize mst (mst (mst (mst (mst (mst (mst (mst M 22 e (nI p)) 23 e a1) 24 e a2) 6 3 (nI (e + 1))) 35 e (nI p)) 36 e a1) 37 e a2) 31 5 (nI (e + 1)) = N at f g hb' ⊢
            have f' : ∀ q, q ∉ [6, 22, 23, 24, 31, 35, 36, 37] → N q = M q := fun q hq => f q (fun x => hq (by rw [x]; decide)) (fun x => hq (by rw [x]; decide)) (fun x => hq (by rw [x]; decide)) (fun x => hq (by rw [x]; decide)) (fun x => hq (by rw [x]; decide)) (fun x => hq (by rw [x]; decide)) (fun x => hq (by rw [x]; decide)) (fun x => hq (by rw [x]; decide))
            have f32 := f' 32 (by decide)
            exact ⟨⟨c, n, hC.1, fun i hi => by rw [f' 10 (by decide)]; exact hC.2.1 i hi, by rw [f32]; exact hC.2.2.1, CoatsX_fr hC.2.2.2.1 (f' 2 (by decide)) (f' 11 (by decide)) (f' 12 (by decide)) (f' 13 (by decide)), YX_fr hC.2.2.2.2 (f' 3 (by decide)) (f' 14 (by decide)) (f' 15 (by decide))⟩, JP_fr hP (f' 25 (by decide)) (f' 7 (by decide)) (f' 29 (by decide)) f32 (g 3 (by decide)), JI_fr hI (f' 26 (by decide)) (f' 27 (by decide)) (f' 28 (by decide)) (f' 30 (by decide)) (f' 33 (by decide)) (f' 34 (by decide)) (fun i _ _ => by rw [f32]), JS_fr hS (f' 9 (by decide)) (g 4 (by decide)), hb'⟩
      · refine bad (-1000000002) ?_ ?_
        · unfold f_X10_write
          rw [X7_has_in hc hw hp, b_s, if_neg (show ¬ (1 : Int32) = 0 by decide), if_neg n0, if_neg n10, isArms, b_s, if_neg h2, if_pos rfl]
        · unfold f_X11_write
          rw [R_isOne_in hs hw hp, b_s, if_neg (show ¬ (1 : Int32) = 0 by decide), R_ini (a := 0) (b := 9) _ _ _ _ (by decide) (by decide), b_s, if_pos h1, if_neg (show ¬ (1 : Int32) = 0 by decide), R_ini (a := 0) (b := 9) _ _ _ _ (by decide) (by decide), b_s, if_neg h2, if_pos rfl]
    · refine bad (-1000000002) ?_ ?_
      · unfold f_X10_write
        rw [X7_has_in hc hw hp, b_s, if_neg (show ¬ (1 : Int32) = 0 by decide)]
        by_cases n0 : a1 < 0
        · rw [if_pos n0]
        · rw [if_neg n0, if_pos (show (10 : Int32) ≤ a1 from (x_geK (k := 10) (by decide)).mpr (by rw [x_lt0] at n0; omega))]
      · unfold f_X11_write
        rw [R_isOne_in hs hw hp, b_s, if_neg (show ¬ (1 : Int32) = 0 by decide), R_ini (a := 0) (b := 9) _ _ _ _ (by decide) (by decide), b_s, if_neg h1, if_pos rfl]
  · refine bad (-1000000001) ?_ ?_
    · unfold f_X10_write
      rw [X7_has_out hc hw hp, b_s, if_pos rfl]
    · unfold f_X11_write
      rw [R_isOne_out hs hw hp, b_s, if_pos rfl]
