def RI (f : Nat → Int32) (y : Nat → Int) (N : Nat) : Prop := ∀ m, m < N → (f m).toInt = y m
def Eb (G : List Ed) : Prop := ∀ e ∈ G, -100 ≤ e.2.2 ∧ e.2.2 ≤ 15
theorem drop_e {G : List Ed} {k : Nat} {e : Ed} (h : G[k]? = some e) : G.drop k = e :: G.drop (k + 1) := by
  have h1 := gete_lt h
  rw [List.drop_eq_getElem_cons h1]
  rw [List.getElem?_eq_getElem h1] at h
  rw [Option.some.inj h]
section Raise
variable {G : List Ed} {N : Nat}
theorem X9_raise_L16 (hN : N ≤ 32) (hi : inN N G) (hb : Eb G) (hl : G.length ≤ 112) (x2 : Int32) : ∀ (j i m : Nat) (M : MM) (y : Nat → Int) (b : Int32) (B : Int), i + j = G.length → j < m → GRep M G → RI (M 14) y N → (b = 0 ∨ b = 1) → (∀ m, m < N → -1000 ≤ y m ∧ y m ≤ B) → B + 15 * j ≤ 1000000 → ∃ (M1 : MM) (b1 : Int32), f_X9_raiseLeast_L16 m M b x2 (nI i) = some (M1, b1) ∧ RI (M1 14) (rnd (G.drop i) y) N ∧ (b1 = 0 ∨ b1 = 1) ∧ (b1 = 0 ↔ b = 0 ∧ ¬ fire y (G.drop i)) ∧ (∀ q, q ≠ 14 → M1 q = M q) ∧ ∀ m, m < N → -1000 ≤ rnd (G.drop i) y m ∧ rnd (G.drop i) y m ≤ B + 15 * j := by
  intro j
  induction j with
  | zero =>
    intro i m M y b B hij hm hg hr hb0 hB hB2
    obtain ⟨m, rfl⟩ : ∃ m', m = m' + 1 := ⟨m - 1, by omega⟩
    rw [List.drop_of_length_le (by omega)]
    refine ⟨M, b, ?_, hr, hb0, ⟨fun h => ⟨h, fun x => x⟩, fun h => h.1⟩, fun _ _ => rfl, fun k hk => ?_⟩
    · rw [f_X9_raiseLeast_L16, hg.1, if_pos (nI_le (by omega) (by omega))]
    · have := hB k hk
      show -1000 ≤ y k ∧ y k ≤ B + 15 * ((0 : Nat) : Int)
      omega
  | succ j ih =>
    intro i m M y b B hij hm hg hr hb0 hB hB2
    obtain ⟨m, rfl⟩ : ∃ m', m = m' + 1 := ⟨m - 1, by omega⟩
    obtain ⟨e, he⟩ := gete (G := G) (k := i) (by omega)
    obtain ⟨g1, g2, g3⟩ := hg.2 i e he
    obtain ⟨a1, a2⟩ := hi e (List.mem_of_getElem? he)
    obtain ⟨d1, d2⟩ := hb e (List.mem_of_getElem? he)
    have y1 := hB e.1 a1
    have es : (M 14 e.1 + M 18 i).toInt = y e.1 + e.2.2 := by
      rw [ti_add (by rw [hr e.1 a1, g3]; omega) (by rw [hr e.1 a1, g3]; omega), hr e.1 a1, g3]
    rw [f_X9_raiseLeast_L16, hg.1, if_neg (nI_ge (by omega) (by omega)), ld_ok (by omega), b_s, g1, ld_ok (by omega), b_s, ld_ok (by omega), b_s, ld_ok (by omega), b_s, g2, ld_ok (by omega), b_s, b_s, nI_1, drop_e he]
    by_cases h : y e.2.1 < y e.1 + e.2.2
    · have hn : ¬ (M 14 e.1 + M 18 i) ≤ M 14 e.2.1 := by
        rw [ti_le, es, hr e.2.1 a2]; omega
      rw [if_neg hn, sto_ok (by omega), b_s, b_s]
      have hr1 : RI (mst M 14 e.2.1 (M 14 e.1 + M 18 i) 14) (rl y e) N := fun k hk => by
        unfold rl
        by_cases q : k = e.2.1
        · subst q
          rw [if_pos ⟨rfl, h⟩, mst_ss, es]
        · rw [if_neg (fun x => q x.1), mst_sn _ _ _ q]; exact hr k hk
      have hg1 : GRep (mst M 14 e.2.1 (M 14 e.1 + M 18 i)) G := by
        unfold GRep
        rw [mst_n _ _ _ (show 3 ≠ 14 by decide), mst_n _ _ _ (show 16 ≠ 14 by decide), mst_n _ _ _ (show 17 ≠ 14 by decide), mst_n _ _ _ (show 18 ≠ 14 by decide)]
        exact hg
      obtain ⟨M1, b1, e1, h1, h2, h3, h4, h5⟩ := ih (i + 1) m _ (rl y e) 1 (B + 15) (by omega) (by omega) hg1 hr1 (Or.inr rfl) (fun k hk => by
        have z1 := hB k hk
        have z2 := rl_ge y e k
        have z3 : rl y e k ≤ B + 15 := by
          unfold rl
          by_cases q : k = e.2.1 ∧ y e.2.1 < y e.1 + e.2.2
          · rw [if_pos q]; omega
          · rw [if_neg q]; omega
        omega) (by have : ((j + 1 : Nat) : Int) = (j : Int) + 1 := by omega
                   omega)
      refine ⟨M1, b1, e1, h1, h2, ?_, fun q hq => (h4 q hq).trans (mst_n _ _ _ hq), fun k hk => ?_⟩
      · rw [h3]
        exact ⟨fun x => absurd x.1 (by decide), fun x => absurd (Or.inl h) x.2⟩
      · have := h5 k hk
        show -1000 ≤ rnd (G.drop (i + 1)) (rl y e) k ∧ rnd (G.drop (i + 1)) (rl y e) k ≤ B + 15 * ((j + 1 : Nat) : Int)
        omega
    · have hn : (M 14 e.1 + M 18 i) ≤ M 14 e.2.1 := by
        rw [ti_le, es, hr e.2.1 a2]; omega
      rw [if_pos hn, b_s]
      obtain ⟨M1, b1, e1, h1, h2, h3, h4, h5⟩ := ih (i + 1) m M y b B (by omega) (by omega) hg hr hb0 hB (by omega)
      have er : rnd (e :: G.drop (i + 1)) y = rnd (G.drop (i + 1)) y := by
        show rnd (G.drop (i + 1)) (rl y e) = _
        rw [rl_no h]
      have ef : fire y (e :: G.drop (i + 1)) ↔ fire y (G.drop (i + 1)) := by
        show (_ ∨ fire (rl y e) _) ↔ _
        rw [rl_no h]
        exact ⟨fun x => x.resolve_left h, Or.inr⟩
      rw [er, ef]
      refine ⟨M1, b1, e1, h1, h2, h3, h4, fun k hk => ?_⟩
      have := h5 k hk
      omega
theorem X9_raise_L4 (hN : N ≤ 32) (hi : inN N G) (hb : Eb G) (hl : G.length ≤ 112) {lo : Nat → Int} : ∀ (j r m : Nat) (M : MM) (x1 : Int32), r + j = N → j < m → GRep M G → M 3 5 = nI N → RI (M 14) (itr G r lo) N → ((r = 0 ∧ x1 = 0) ∨ (0 < r ∧ x1 = 1 ∧ fire (itr G (r - 1) lo) G)) → (∀ m, m < N → -1000 ≤ itr G r lo m ∧ itr G r lo m ≤ 999 + 1680 * r) → ∃ (M1 : MM) (b : Int32), f_X9_raiseLeast_L4 m M x1 (nI r) = some (b, M1) ∧ (∀ q, q ≠ 14 → M1 q = M q) ∧ ((b = 1 ∧ ∃ k, RI (M1 14) (itr G k lo) N ∧ clo G (itr G k lo)) ∨ (b = 0 ∧ ∃ k, N ≤ k + 1 ∧ fire (itr G k lo) G)) := by
  intro j
  induction j with
  | zero =>
    intro r m M x1 hr hm hg h5 hri hx hB
    obtain ⟨m, rfl⟩ : ∃ m', m = m' + 1 := ⟨m - 1, by omega⟩
    rw [f_X9_raiseLeast_L4, h5, if_pos (nI_le (by omega) (by omega))]
    rcases hx with ⟨h0, rfl⟩ | ⟨h0, rfl, hf⟩
    · rw [if_pos rfl, rzM1]
      refine ⟨M, 1, rfl, fun _ _ => rfl, Or.inl ⟨rfl, r, hri, fun e he => ?_⟩⟩
      have := (hi e he).1
      omega
    · rw [if_neg (by decide), rzM0]
      exact ⟨M, 0, rfl, fun _ _ => rfl, Or.inr ⟨rfl, r - 1, by omega, hf⟩⟩
  | succ j ih =>
    intro r m M x1 hr hm hg h5 hri hx hB
    obtain ⟨m, rfl⟩ : ∃ m', m = m' + 1 := ⟨m - 1, by omega⟩
    obtain ⟨M1, b1, e1, h1, h2, h3, h4, h6⟩ := X9_raise_L16 hN hi hb hl (nI r) G.length 0 FU M (itr G r lo) 0 (999 + 1680 * r) (by omega) (by unfold FU; omega) hg hri (Or.inl rfl) hB (by omega)
    rw [List.drop_zero] at h1 h3 h6
    rw [f_X9_raiseLeast_L4, h5, if_neg (nI_ge (by omega) (by omega)), show f_X9_raiseLeast_L16 FU M (0 : Int32) (nI r) (0 : Int32) = some (M1, b1) from e1, b_s]
    dsimp only
    rcases h2 with rfl | rfl
    · rw [if_pos rfl, rzM1]
      obtain ⟨-, hnf⟩ := h3.mp rfl
      obtain ⟨n1, n2⟩ := nofire hnf
      rw [n1] at h1
      exact ⟨M1, 1, rfl, h4, Or.inl ⟨rfl, r, h1, n2⟩⟩
    · rw [if_neg (by decide), nI_1]
      have hf : fire (itr G r lo) G := Classical.byContradiction fun x => absurd (h3.mpr ⟨rfl, x⟩) (by decide)
      have hg1 : GRep M1 G := by
        unfold GRep
        rw [h4 3 (by decide), h4 16 (by decide), h4 17 (by decide), h4 18 (by decide)]
        exact hg
      obtain ⟨M2, b2, e2, k1, k2⟩ := ih (r + 1) m M1 1 (by omega) (by omega) hg1 (by rw [h4 3 (by decide)]; exact h5) h1 (Or.inr ⟨by omega, rfl, hf⟩) (fun k hk => by
        have := h6 k hk
        show -1000 ≤ rnd G (itr G r lo) k ∧ rnd G (itr G r lo) k ≤ 999 + 1680 * ((r + 1 : Nat) : Int)
        omega)
      exact ⟨M2, b2, e2, fun q hq => (k1 q hq).trans (h4 q hq), k2⟩
theorem X9_crossed_L2 (hN : N ≤ 32) {M : MM} (h5 : M 3 5 = nI N) : ∀ (j i m : Nat), i + j = N → j < m → f_X9_isCrossed_L2 m M (nI i) = some (@ite _ (∀ k, i ≤ k → k < N → (M 14 k).toInt ≤ (M 15 k).toInt) (Classical.propDecidable _) 0 1) := by
  intro j
  induction j with
  | zero =>
    intro i m hi hm
    obtain ⟨m, rfl⟩ : ∃ m', m = m' + 1 := ⟨m - 1, by omega⟩
    rw [f_X9_isCrossed_L2, h5, if_pos (nI_le (by omega) (by omega)), rz0, if_pos (fun k a b => by omega)]
  | succ j ih =>
    intro i m hi hm
    obtain ⟨m, rfl⟩ : ∃ m', m = m' + 1 := ⟨m - 1, by omega⟩
    rw [f_X9_isCrossed_L2, h5, if_neg (nI_ge (by omega) (by omega)), ld_ok (by omega), b_s, ld_ok (by omega), b_s, nI_1]
    by_cases h : M 14 i ≤ M 15 i
    · rw [if_pos h, ih (i + 1) m (by omega) (by omega)]
      congr 1
      apply ite_iff
      rw [ti_le] at h
      constructor
      · intro q k a b
        rcases Nat.eq_or_lt_of_le a with rfl | a
        · exact h
        · exact q k a b
      · intro q k a b
        exact q k (by omega) b
    · rw [if_neg h, rz1, if_neg (fun q => h (ti_le.mpr (q i (Nat.le_refl i) (by omega))))]
def rv (e : Ed) : Ed := (e.2.1, e.1, e.2.2)
def Rv (G : List Ed) : List Ed := G.map rv
theorem inN_rv (h : inN N G) : inN N (Rv G) := fun e he => by
  obtain ⟨d, hd, rfl⟩ := List.mem_map.mp he
  exact ⟨(h d hd).2, (h d hd).1⟩
/-- the greatest years, with their sign turned -/
def RN (f : Nat → Int32) (y : Nat → Int) (N : Nat) : Prop := ∀ m, m < N → (f m).toInt = -(y m)
theorem X9_lower_L20 (hN : N ≤ 32) (hi : inN N G) (hb : Eb G) (hl : G.length ≤ 112) (x2 : Int32) : ∀ (j i m : Nat) (M : MM) (y : Nat → Int) (b : Int32) (B : Int), i + j = G.length → j < m → GRep M G → RN (M 15) y N → (b = 0 ∨ b = 1) → (∀ m, m < N → -1000 ≤ y m ∧ y m ≤ B) → B + 15 * j ≤ 1000000 → ∃ (M1 : MM) (b1 : Int32), f_X9_lowerGreatest_L20 m M b x2 (nI i) = some (M1, b1) ∧ RN (M1 15) (rnd (Rv (G.drop i)) y) N ∧ (b1 = 0 ∨ b1 = 1) ∧ (b1 = 0 ↔ b = 0 ∧ ¬ fire y (Rv (G.drop i))) ∧ (∀ q, q ≠ 15 → M1 q = M q) ∧ ∀ m, m < N → -1000 ≤ rnd (Rv (G.drop i)) y m ∧ rnd (Rv (G.drop i)) y m ≤ B + 15 * j := by
  intro j
  induction j with
  | zero =>
    intro i m M y b B hij hm hg hr hb0 hB hB2
    obtain ⟨m, rfl⟩ : ∃ m', m = m' + 1 := ⟨m - 1, by omega⟩
    rw [List.drop_of_length_le (by omega)]
    refine ⟨M, b, ?_, hr, hb0, ⟨fun h => ⟨h, fun x => x⟩, fun h => h.1⟩, fun _ _ => rfl, fun k hk => ?_⟩
    · rw [f_X9_lowerGreatest_L20, hg.1, if_pos (nI_le (by omega) (by omega))]
    · have := hB k hk
      show -1000 ≤ y k ∧ y k ≤ B + 15 * ((0 : Nat) : Int)
      omega
  | succ j ih =>
    intro i m M y b B hij hm hg hr hb0 hB hB2
    obtain ⟨m, rfl⟩ : ∃ m', m = m' + 1 := ⟨m - 1, by omega⟩
    obtain ⟨e, he⟩ := gete (G := G) (k := i) (by omega)
    obtain ⟨g1, g2, g3⟩ := hg.2 i e he
    obtain ⟨a1, a2⟩ := hi e (List.mem_of_getElem? he)
    obtain ⟨d1, d2⟩ := hb e (List.mem_of_getElem? he)
    have y1 := hB e.2.1 a2
    have es : (M 15 e.2.1 - M 18 i).toInt = -(y e.2.1) - e.2.2 := by
      rw [ti_sub (by rw [hr e.2.1 a2, g3]; omega) (by rw [hr e.2.1 a2, g3]; omega), hr e.2.1 a2, g3]
    have edr : Rv (G.drop i) = rv e :: Rv (G.drop (i + 1)) := by
      unfold Rv
      rw [drop_e he, List.map_cons]
    rw [f_X9_lowerGreatest_L20, hg.1, if_neg (nI_ge (by omega) (by omega)), ld_ok (by omega), b_s, g2, ld_ok (by omega), b_s, ld_ok (by omega), b_s, ld_ok (by omega), b_s, g1, ld_ok (by omega), b_s, b_s, nI_1, edr]
    by_cases h : y (rv e).2.1 < y (rv e).1 + (rv e).2.2
    · have h' : y e.1 < y e.2.1 + e.2.2 := h
      have hn : ¬ M 15 e.1 ≤ (M 15 e.2.1 - M 18 i) := by
        rw [ti_le, es, hr e.1 a1]; omega
      rw [if_neg hn, sto_ok (by omega), b_s, b_s]
      have hr1 : RN (mst M 15 e.1 (M 15 e.2.1 - M 18 i) 15) (rl y (rv e)) N := fun k hk => by
        unfold rl
        by_cases q : k = e.1
        · subst q
          rw [if_pos ⟨rfl, h⟩, mst_ss, es]
          show -(y e.2.1) - e.2.2 = -(y e.2.1 + e.2.2)
          omega
        · rw [if_neg (fun x => q x.1), mst_sn _ _ _ q]; exact hr k hk
      have hg1 : GRep (mst M 15 e.1 (M 15 e.2.1 - M 18 i)) G := by
        unfold GRep
        rw [mst_n _ _ _ (show 3 ≠ 15 by decide), mst_n _ _ _ (show 16 ≠ 15 by decide), mst_n _ _ _ (show 17 ≠ 15 by decide), mst_n _ _ _ (show 18 ≠ 15 by decide)]
        exact hg
      obtain ⟨M1, b1, e1, h1, h2, h3, h4, h5⟩ := ih (i + 1) m _ (rl y (rv e)) 1 (B + 15) (by omega) (by omega) hg1 hr1 (Or.inr rfl) (fun k hk => by
        have z1 := hB k hk
        have z2 := rl_ge y (rv e) k
        have z3 : rl y (rv e) k ≤ B + 15 := by
          unfold rl
          by_cases q : k = (rv e).2.1 ∧ y (rv e).2.1 < y (rv e).1 + (rv e).2.2
          · rw [if_pos q]
            show y e.2.1 + e.2.2 ≤ B + 15
            omega
          · rw [if_neg q]; omega
        omega) (by have : ((j + 1 : Nat) : Int) = (j : Int) + 1 := by omega
                   omega)
      refine ⟨M1, b1, e1, h1, h2, ?_, fun q hq => (h4 q hq).trans (mst_n _ _ _ hq), fun k hk => ?_⟩
      · rw [h3]
        exact ⟨fun x => absurd x.1 (by decide), fun x => absurd (Or.inl h) x.2⟩
      · have := h5 k hk
        show -1000 ≤ rnd (Rv (G.drop (i + 1))) (rl y (rv e)) k ∧ rnd (Rv (G.drop (i + 1))) (rl y (rv e)) k ≤ B + 15 * ((j + 1 : Nat) : Int)
        omega
    · have h' : ¬ y e.1 < y e.2.1 + e.2.2 := h
      have hn : M 15 e.1 ≤ (M 15 e.2.1 - M 18 i) := by
        rw [ti_le, es, hr e.1 a1]; omega
      rw [if_pos hn, b_s]
      obtain ⟨M1, b1, e1, h1, h2, h3, h4, h5⟩ := ih (i + 1) m M y b B (by omega) (by omega) hg hr hb0 hB (by omega)
      have er : rnd (rv e :: Rv (G.drop (i + 1))) y = rnd (Rv (G.drop (i + 1))) y := by
        show rnd (Rv (G.drop (i + 1))) (rl y (rv e)) = _
        rw [rl_no h]
      have ef : fire y (rv e :: Rv (G.drop (i + 1))) ↔ fire y (Rv (G.drop (i + 1))) := by
        show (_ ∨ fire (rl y (rv e)) _) ↔ _
        rw [rl_no h]
        exact ⟨fun x => x.resolve_left h, Or.inr⟩
      rw [er, ef]
      refine ⟨M1, b1, e1, h1, h2, h3, h4, fun k hk => ?_⟩
      have := h5 k hk
      omega
theorem X9_lower_L4 (hN : N ≤ 32) (hi : inN N G) (hb : Eb G) (hl : G.length ≤ 112) {lo : Nat → Int} : ∀ (j r m : Nat) (M : MM), r + j = N → j < m → GRep M G → M 3 5 = nI N → RN (M 15) (itr (Rv G) r lo) N → (∀ m, m < N → -1000 ≤ itr (Rv G) r lo m ∧ itr (Rv G) r lo m ≤ 999 + 1680 * r) → ∃ (M1 : MM) (k : Nat), f_X9_lowerGreatest_L4 m M 1 (nI r) = some M1 ∧ (∀ q, q ≠ 15 → M1 q = M q) ∧ RN (M1 15) (itr (Rv G) k lo) N ∧ (N ≤ k ∨ clo (Rv G) (itr (Rv G) k lo)) := by
  intro j
  induction j with
  | zero =>
    intro r m M hr hm hg h5 hri hB
    obtain ⟨m, rfl⟩ : ∃ m', m = m' + 1 := ⟨m - 1, by omega⟩
    refine ⟨M, r, ?_, fun _ _ => rfl, hri, Or.inl (by omega)⟩
    rw [f_X9_lowerGreatest_L4, h5, if_pos (nI_le (by omega) (by omega))]
  | succ j ih =>
    intro r m M hr hm hg h5 hri hB
    obtain ⟨m, rfl⟩ : ∃ m', m = m' + 1 := ⟨m - 1, by omega⟩
    obtain ⟨M1, b1, e1, h1, h2, h3, h4, h6⟩ := X9_lower_L20 hN hi hb hl (nI r) G.length 0 FU M (itr (Rv G) r lo) 0 (999 + 1680 * r) (by omega) (by unfold FU; omega) hg hri (Or.inl rfl) hB (by omega)
    rw [List.drop_zero] at h1 h3 h6
    rw [f_X9_lowerGreatest_L4, h5, if_neg (nI_ge (by omega) (by omega)), if_neg (by decide), show f_X9_lowerGreatest_L20 FU M (0 : Int32) (nI r) (0 : Int32) = some (M1, b1) from e1, b_s]
    dsimp only
    rcases h2 with rfl | rfl
    · obtain ⟨-, hnf⟩ := h3.mp rfl
      obtain ⟨n1, n2⟩ := nofire hnf
      rw [n1] at h1
      refine ⟨M1, r, ?_, h4, h1, Or.inr n2⟩
      obtain ⟨m, rfl⟩ : ∃ m', m = m' + 1 := ⟨m - 1, by omega⟩
      rw [f_X9_lowerGreatest_L4, if_pos rfl]
      by_cases q : M1 3 5 ≤ nI r + 1
      · rw [if_pos q]
      · rw [if_neg q]
    · rw [nI_1]
      have hg1 : GRep M1 G := by
        unfold GRep
        rw [h4 3 (by decide), h4 16 (by decide), h4 17 (by decide), h4 18 (by decide)]
        exact hg
      obtain ⟨M2, k, e2, k1, k2, k3⟩ := ih (r + 1) m M1 (by omega) (by omega) hg1 (by rw [h4 3 (by decide)]; exact h5) h1 (fun k hk => by
        have := h6 k hk
        show -1000 ≤ rnd (Rv G) (itr (Rv G) r lo) k ∧ rnd (Rv G) (itr (Rv G) r lo) k ≤ 999 + 1680 * ((r + 1 : Nat) : Int)
        omega)
      exact ⟨M2, k, e2, fun q hq => (k1 q hq).trans (h4 q hq), k2, k3⟩
end Raise
