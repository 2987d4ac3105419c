/-! years that can be chosen; the least and the greatest; the class's reckoning -/
def ylo (c : Nat → Int32) (m : Nat) : Int := (c (13 + 8 * (m / 2) + (if m % 2 = 0 then 4 else 6))).toInt
def yhi (c : Nat → Int32) (m : Nat) : Int := (c (13 + 8 * (m / 2) + (if m % 2 = 0 then 5 else 7))).toInt
def Feas (c : Nat → Int32) (n : Nat) (x : Nat → Int) : Prop := clo (gl c n) x ∧ ∀ m, m < 2 * n → ylo c m ≤ x m ∧ x m ≤ yhi c m
def LstF (c : Nat → Int32) (n : Nat) (y : Nat → Int) : Prop := Feas c n y ∧ ∀ z, Feas c n z → ∀ m, m < 2 * n → y m ≤ z m
def GrtF (c : Nat → Int32) (n : Nat) (y : Nat → Int) : Prop := Feas c n y ∧ ∀ z, Feas c n z → ∀ m, m < 2 * n → z m ≤ y m
theorem LstF_u {c : Nat → Int32} {n : Nat} {y z : Nat → Int} (h : LstF c n y) (h2 : LstF c n z) : ∀ m, m < 2 * n → y m = z m := fun m hm => Int.le_antisymm (h.2 z h2.1 m hm) (h2.2 y h.1 m hm)
theorem GrtF_u {c : Nat → Int32} {n : Nat} {y z : Nat → Int} (h : GrtF c n y) (h2 : GrtF c n z) : ∀ m, m < 2 * n → y m = z m := fun m hm => Int.le_antisymm (h2.2 y h.1 m hm) (h.2 z h2.1 m hm)
section Reckon
variable {c : Nat → Int32} {n : Nat}
theorem gl_in (hw : WF c n) : inN (2 * n) (gl c n) := fun e he => ⟨((gl_ok hw n (Nat.le_refl n)).2 e he).1, ((gl_ok hw n (Nat.le_refl n)).2 e he).2.1⟩
theorem gl_eb (hw : WF c n) : Eb (gl c n) := fun e he => ((gl_ok hw n (Nat.le_refl n)).2 e he).2.2
theorem gl_len (hw : WF c n) : (gl c n).length ≤ 112 := by
  have := (gl_ok hw n (Nat.le_refl n)).1
  have := hw.1
  omega
theorem ylo_b (hw : WF c n) {m : Nat} (hm : m < 2 * n) : 0 ≤ ylo c m ∧ ylo c m ≤ 999 := by
  have h := (hw.2.2.2.2 (m / 2) (by omega)).2.2.2.2
  unfold ylo
  by_cases q : m % 2 = 0
  · rw [if_pos q]
    obtain ⟨y, h1, h2⟩ := h 4 (by decide) (by decide)
    rw [h2, ti_n (by omega)]; omega
  · rw [if_neg q]
    obtain ⟨y, h1, h2⟩ := h 6 (by decide) (by decide)
    rw [h2, ti_n (by omega)]; omega
theorem yhi_b (hw : WF c n) {m : Nat} (hm : m < 2 * n) : 0 ≤ yhi c m ∧ yhi c m ≤ 999 := by
  have h := (hw.2.2.2.2 (m / 2) (by omega)).2.2.2.2
  unfold yhi
  by_cases q : m % 2 = 0
  · rw [if_pos q]
    obtain ⟨y, h1, h2⟩ := h 5 (by decide) (by decide)
    rw [h2, ti_n (by omega)]; omega
  · rw [if_neg q]
    obtain ⟨y, h1, h2⟩ := h 7 (by decide) (by decide)
    rw [h2, ti_n (by omega)]; omega
/-- what the class holds of the years -/
def YX (c : Nat → Int32) (n : Nat) (M : MM) : Prop := M 3 5 = nI (2 * n) ∧ ((∃ x, Feas c n x) → M 3 7 = 0 ∧ (∃ y, LstF c n y ∧ RI (M 14) y (2 * n)) ∧ ∃ y, GrtF c n y ∧ RI (M 15) y (2 * n)) ∧ ((¬ ∃ x, Feas c n x) → M 3 7 = 1)
theorem mom {P : Nat → Prop} (h0 : ∀ p, p < n → P (2 * p)) (h1 : ∀ p, p < n → P (2 * p + 1)) : ∀ m, m < 2 * n → P m := by
  intro m hm
  rcases Nat.mod_two_eq_zero_or_one m with q | q
  · have e : m = 2 * (m / 2) := by omega
    rw [e]; exact h0 _ (by omega)
  · have e : m = 2 * (m / 2) + 1 := by omega
    rw [e]; exact h1 _ (by omega)
theorem ylo_0 (p : Nat) : ylo c (2 * p) = (c (13 + 8 * p + 4)).toInt := by
  unfold ylo
  rw [if_pos (by omega), show 2 * p / 2 = p by omega]
theorem ylo_1 (p : Nat) : ylo c (2 * p + 1) = (c (13 + 8 * p + 6)).toInt := by
  unfold ylo
  rw [if_neg (by omega), show (2 * p + 1) / 2 = p by omega]
theorem yhi_0 (p : Nat) : yhi c (2 * p) = (c (13 + 8 * p + 5)).toInt := by
  unfold yhi
  rw [if_pos (by omega), show 2 * p / 2 = p by omega]
theorem yhi_1 (p : Nat) : yhi c (2 * p + 1) = (c (13 + 8 * p + 7)).toInt := by
  unfold yhi
  rw [if_neg (by omega), show (2 * p + 1) / 2 = p by omega]
theorem clo_rv {G : List Ed} {x : Nat → Int} (h : clo G x) : clo (Rv G) (fun m => -(x m)) := fun e he => by
  obtain ⟨d, hd, rfl⟩ := List.mem_map.mp he
  have := h d hd
  show -(x d.2.1) + d.2.2 ≤ -(x d.1)
  omega
theorem clo_rv' {G : List Ed} {x : Nat → Int} (h : clo (Rv G) x) : clo G (fun m => -(x m)) := fun e he => by
  have := h (rv e) (List.mem_map.mpr ⟨e, he, rfl⟩)
  have h2 : x e.2.1 + e.2.2 ≤ x e.1 := this
  show -(x e.1) + e.2.2 ≤ -(x e.2.1)
  omega
theorem X9_reckon {M : MM} (hw : WF c n) (hc : Rc c M) : ∃ M1, f_X9_reckon M = some M1 ∧ YX c n M1 ∧ ∀ q, q ≠ 3 → q ≠ 14 → q ≠ 15 → q ≠ 16 → q ≠ 17 → q ≠ 18 → M1 q = M q := by
  have h16 := hw.1
  unfold f_X9_reckon
  rw [X7_people hc hw, b_s, show (2 : Int32) * nI n = nI (2 * n) from pk_mul 2 n, if_neg (show ¬ (32 : Int32) < nI (2 * n) from nI_nlt (a := 32) (by omega) (by decide)), show z_stf M 3 5 (nI (2 * n)) = some (mst M 3 5 (nI (2 * n))) from rfl, b_s]
  have hc1 : Rc c (mst M 3 5 (nI (2 * n))) := fun i hi => by rw [mst_n _ _ _ (by decide)]; exact hc i hi
  obtain ⟨M2, e2, b2, F2⟩ := X9_layBounds hw hc1 (mst_ss _ _ _ _)
  have hc2 : Rc c M2 := fun i hi => by rw [F2 10 (by decide) (by decide)]; exact hc1 i hi
  obtain ⟨M3, e3, g3, F3⟩ := X9_layGaps hw hc2 (by rw [F2 3 (by decide) (by decide), mst_ss])
  rw [e2, b_s, e3, b_s]
  have h35 : M3 3 5 = nI (2 * n) := by rw [F3.2 5 (by decide), F2 3 (by decide) (by decide), mst_ss]
  have r14 : RI (M3 14) (ylo c) (2 * n) := by
    unfold RI
    rw [F3.1 14 (by decide) (by decide) (by decide) (by decide)]
    exact mom (fun p hp => by rw [(b2 p hp).1, ylo_0]) (fun p hp => by rw [(b2 p hp).2.2.1, ylo_1])
  have r15 : RI (M3 15) (yhi c) (2 * n) := by
    unfold RI
    rw [F3.1 15 (by decide) (by decide) (by decide) (by decide)]
    exact mom (fun p hp => by rw [(b2 p hp).2.1, yhi_0]) (fun p hp => by rw [(b2 p hp).2.2.2, yhi_1])
  have hin := gl_in hw
  obtain ⟨M4, b4, e4, F4, k4⟩ := X9_raise_L4 (N := 2 * n) (by omega) hin (gl_eb hw) (gl_len hw) (lo := ylo c) (2 * n) 0 FU M3 0 (by omega) (by unfold FU; omega) g3 h35 r14 (Or.inl ⟨rfl, rfl⟩) (fun m hm => by
    have := ylo_b hw hm
    show -1000 ≤ ylo c m ∧ ylo c m ≤ 999 + 1680 * ((0 : Nat) : Int)
    omega)
  rw [show f_X9_raiseLeast M3 = some (b4, M4) from e4, b_s]
  dsimp only
  have k35 : M4 3 5 = nI (2 * n) := by rw [F4 3 (by decide)]; exact h35
  have k15 : RI (M4 15) (yhi c) (2 * n) := by unfold RI; rw [F4 15 (by decide)]; exact r15
  have ecr : f_X9_isCrossed M4 = _ := X9_crossed_L2 (N := 2 * n) (by omega) k35 (2 * n) 0 FU (by omega) (by unfold FU; omega)
  have frame4 : ∀ q, q ≠ 3 → q ≠ 14 → q ≠ 15 → q ≠ 16 → q ≠ 17 → q ≠ 18 → M4 q = M q := fun q a b d e f g => by
    rw [F4 q b, F3.1 q a e f g, F2 q b d, mst_n _ _ _ a]
  -- spoiled
  have bad : (¬ ∃ x, Feas c n x) → ∀ j : Int32, j = 1 → ∃ M1, (z_stb M4 3 7 j).bind (fun M40 => (if M40 3 7 = 0 then (f_X9_lowerGreatest M40).bind fun M51 => some M51 else some M40).bind fun j47 => some j47) = some M1 ∧ YX c n M1 ∧ ∀ q, q ≠ 3 → q ≠ 14 → q ≠ 15 → q ≠ 16 → q ≠ 17 → q ≠ 18 → M1 q = M q := by
    intro hno j hj
    subst hj
    rw [show z_stb M4 3 7 1 = some (mst M4 3 7 1) from rfl, b_s, mst_ss, if_neg (by decide), b_s]
    refine ⟨_, rfl, ⟨?_, fun h => absurd h hno, fun _ => mst_ss _ _ _ _⟩, fun q a b d e f g => ?_⟩
    · rw [mst_sn _ _ _ (by decide)]; exact k35
    · rw [mst_n _ _ _ a]; exact frame4 q a b d e f g
  by_cases hf : ∃ x, Feas c n x
  · obtain ⟨x, hx⟩ := hf
    obtain ⟨L, hL⟩ := lstC_ex hin (lo := ylo c) ⟨x, hx.1, fun m hm => (hx.2 m hm).1⟩
    rcases k4 with ⟨rfl, k, r4, hcl⟩ | ⟨rfl, k, hk, hfire⟩
    · -- the least are reached
      have eqL : ∀ m, m < 2 * n → itr (gl c n) k (ylo c) m = L m := fun m hm => Int.le_antisymm (itr_le hin hL.1 hL.2.1 k m hm) (hL.2.2 _ hcl (fun i _ => itr_ge _ _ i k) m hm)
      have feasL : Feas c n (itr (gl c n) k (ylo c)) := ⟨hcl, fun m hm => ⟨itr_ge _ _ m k, by
        rw [eqL m hm]
        exact Int.le_trans (hL.2.2 x hx.1 (fun i hi => (hx.2 i hi).1) m hm) (hx.2 m hm).2⟩⟩
      have lstL : LstF c n (itr (gl c n) k (ylo c)) := ⟨feasL, fun z hz m hm => by
        rw [eqL m hm]
        exact hL.2.2 z hz.1 (fun i hi => (hz.2 i hi).1) m hm⟩
      have hcross : ∀ i, 0 ≤ i → i < 2 * n → (M4 14 i).toInt ≤ (M4 15 i).toInt := fun i _ hi => by
        rw [r4 i hi, k15 i hi]
        exact (feasL.2 i hi).2
      rw [if_neg (by decide), ecr, b_s, if_pos hcross, if_pos rfl, b_s, show z_stb M4 3 7 0 = some (mst M4 3 7 0) from rfl, b_s, mst_ss, if_pos rfl]
      -- the greatest
      have hg5 : GRep (mst M4 3 7 0) (gl c n) := by
        refine ⟨?_, ?_⟩
        · rw [mst_sn _ _ _ (by decide), F4 3 (by decide)]; exact g3.1
        · rw [mst_n _ _ _ (by decide), mst_n _ _ _ (by decide), mst_n _ _ _ (by decide), F4 16 (by decide), F4 17 (by decide), F4 18 (by decide)]; exact g3.2
      obtain ⟨M5, k5, e5, F5, r5, q5⟩ := X9_lower_L4 (N := 2 * n) (by omega) hin (gl_eb hw) (gl_len hw) (lo := fun m => -(yhi c m)) (2 * n) 0 FU (mst M4 3 7 0) (by omega) (by unfold FU; omega) hg5 (by rw [mst_sn _ _ _ (by decide)]; exact k35) (fun m hm => by
        rw [mst_n _ _ _ (by decide), k15 m hm]
        show yhi c m = -(-(yhi c m))
        omega) (fun m hm => by
        have := yhi_b hw hm
        show -1000 ≤ -(yhi c m) ∧ -(yhi c m) ≤ 999 + 1680 * ((0 : Nat) : Int)
        omega)
      have e6 : f_X9_lowerGreatest (mst M4 3 7 0) = some M5 := by
        unfold f_X9_lowerGreatest
        rw [show f_X9_lowerGreatest_L4 FU (mst M4 3 7 0) (1 : Int32) (0 : Int32) = some M5 from e5, b_s]
      rw [e6, b_s, b_s]
      have hinr := inN_rv hin
      obtain ⟨H, hH⟩ := lstC_ex hinr (lo := fun m => -(yhi c m)) ⟨fun m => -(x m), clo_rv hx.1, fun m hm => by have := (hx.2 m hm).2; show -(yhi c m) ≤ -(x m); omega⟩
      have eqH : ∀ m, m < 2 * n → itr (Rv (gl c n)) k5 (fun m => -(yhi c m)) m = H m := by
        rcases q5 with q | q
        · exact bf_done hH hinr (by omega)
        · exact fun m hm => Int.le_antisymm (itr_le hinr hH.1 hH.2.1 k5 m hm) (hH.2.2 _ q (fun i _ => itr_ge _ _ i k5) m hm)
      have grt : GrtF c n (fun m => -(H m)) := by
        refine ⟨⟨clo_rv' hH.1, fun m hm => ⟨?_, ?_⟩⟩, fun z hz m hm => ?_⟩
        · have a := hH.2.2 (fun m => -(x m)) (clo_rv hx.1) (fun i hi => by have := (hx.2 i hi).2; show -(yhi c i) ≤ -(x i); omega) m hm
          have b := (hx.2 m hm).1
          dsimp only at a ⊢
          omega
        · have := hH.2.1 m hm
          dsimp only at this ⊢
          omega
        · have a := hH.2.2 (fun m => -(z m)) (clo_rv hz.1) (fun i hi => by have := (hz.2 i hi).2; show -(yhi c i) ≤ -(z i); omega) m hm
          dsimp only at a ⊢
          omega
      refine ⟨M5, rfl, ⟨?_, fun _ => ⟨?_, ⟨_, lstL, ?_⟩, ⟨_, grt, ?_⟩⟩, fun h => absurd ⟨x, hx⟩ h⟩, fun q a b d e f g => ?_⟩
      · rw [F5 3 (by decide), mst_sn _ _ _ (by decide)]; exact k35
      · rw [F5 3 (by decide), mst_ss]
      · unfold RI
        rw [F5 14 (by decide), mst_n _ _ _ (by decide)]; exact r4
      · intro m hm
        have := r5 m hm
        rw [eqH m hm] at this
        exact this
      · rw [F5 q d, mst_n _ _ _ a]; exact frame4 q a b d e f g
    · exact absurd hfire (bf_stop hL hin hk)
  · rcases k4 with ⟨rfl, k, r4, hcl⟩ | ⟨rfl, k, hk, hfire⟩
    · rw [if_neg (by decide), ecr, b_s]
      have hn : ¬ ∀ i, 0 ≤ i → i < 2 * n → (M4 14 i).toInt ≤ (M4 15 i).toInt := fun h => hf ⟨itr (gl c n) k (ylo c), hcl, fun m hm => ⟨itr_ge _ _ m k, by
        have := h m (Nat.zero_le m) hm
        rw [r4 m hm, k15 m hm] at this
        exact this⟩⟩
      rw [if_neg hn, if_neg (by decide), b_s]
      exact bad hf 1 rfl
    · rw [if_pos rfl, b_s]
      exact bad hf 1 rfl
end Reckon
