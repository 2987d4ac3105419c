/-! what must be between years: the list of gaps, laid by the class -/
def gp (c : Nat → Int32) (p : Nat) : List Ed := [(2 * p, 2 * p + 1, 0), (2 * p + 1, 2 * p, -100)] ++ ((if c (13 + 8 * p + 2) = -1 then [] else [(2 * (c (13 + 8 * p + 2)).toNatClampNeg, 2 * p, 15), (2 * p, 2 * (c (13 + 8 * p + 2)).toNatClampNeg + 1, -1)]) ++ (if c (13 + 8 * p + 3) = -1 then [] else [(2 * (c (13 + 8 * p + 3)).toNatClampNeg, 2 * p, 15), (2 * p, 2 * (c (13 + 8 * p + 3)).toNatClampNeg, -50), (2 * p, 2 * (c (13 + 8 * p + 3)).toNatClampNeg + 1, 0)]))
def gl (c : Nat → Int32) : Nat → List Ed
  | 0 => []
  | p + 1 => gl c p ++ gp c p
theorem gp_ok {c : Nat → Int32} {p : Nat} (hp : p < 16) (h : WFp c p) : (gp c p).length ≤ 7 ∧ ∀ e ∈ gp c p, e.1 < 2 * (p + 1) ∧ e.2.1 < 2 * (p + 1) ∧ -100 ≤ e.2.2 ∧ e.2.2 ≤ 15 := by
  unfold gp
  have b1 : ∀ e ∈ ([(2 * p, 2 * p + 1, 0), (2 * p + 1, 2 * p, -100)] : List Ed), e.1 < 2 * (p + 1) ∧ e.2.1 < 2 * (p + 1) ∧ -100 ≤ e.2.2 ∧ e.2.2 ≤ 15 := by
    intro e he
    simp at he
    rcases he with rfl | rfl
    · exact ⟨by dsimp only; omega, by dsimp only; omega, by dsimp only; omega, by dsimp only; omega⟩
    · exact ⟨by dsimp only; omega, by dsimp only; omega, by dsimp only; omega, by dsimp only; omega⟩
  have b2 : (if c (13 + 8 * p + 2) = -1 then ([] : List Ed) else [(2 * (c (13 + 8 * p + 2)).toNatClampNeg, 2 * p, 15), (2 * p, 2 * (c (13 + 8 * p + 2)).toNatClampNeg + 1, -1)]).length ≤ 2 ∧ ∀ e ∈ (if c (13 + 8 * p + 2) = -1 then ([] : List Ed) else [(2 * (c (13 + 8 * p + 2)).toNatClampNeg, 2 * p, 15), (2 * p, 2 * (c (13 + 8 * p + 2)).toNatClampNeg + 1, -1)]), e.1 < 2 * (p + 1) ∧ e.2.1 < 2 * (p + 1) ∧ -100 ≤ e.2.2 ∧ e.2.2 ≤ 15 := by
    by_cases q : c (13 + 8 * p + 2) = -1
    · rw [if_pos q]; exact ⟨by decide, fun e he => by cases he⟩
    · rw [if_neg q]
      obtain ⟨j, hj, ej⟩ := h.2.2.1.resolve_left q
      rw [ej, nI_clamp (by omega)]
      refine ⟨by simp, fun e he => ?_⟩
      simp at he
      rcases he with rfl | rfl
      · exact ⟨by dsimp only; omega, by dsimp only; omega, by dsimp only; omega, by dsimp only; omega⟩
      · exact ⟨by dsimp only; omega, by dsimp only; omega, by dsimp only; omega, by dsimp only; omega⟩
  have b3 : (if c (13 + 8 * p + 3) = -1 then ([] : List Ed) else [(2 * (c (13 + 8 * p + 3)).toNatClampNeg, 2 * p, 15), (2 * p, 2 * (c (13 + 8 * p + 3)).toNatClampNeg, -50), (2 * p, 2 * (c (13 + 8 * p + 3)).toNatClampNeg + 1, 0)]).length ≤ 3 ∧ ∀ e ∈ (if c (13 + 8 * p + 3) = -1 then ([] : List Ed) else [(2 * (c (13 + 8 * p + 3)).toNatClampNeg, 2 * p, 15), (2 * p, 2 * (c (13 + 8 * p + 3)).toNatClampNeg, -50), (2 * p, 2 * (c (13 + 8 * p + 3)).toNatClampNeg + 1, 0)]), e.1 < 2 * (p + 1) ∧ e.2.1 < 2 * (p + 1) ∧ -100 ≤ e.2.2 ∧ e.2.2 ≤ 15 := by
    by_cases q : c (13 + 8 * p + 3) = -1
    · rw [if_pos q]; exact ⟨by decide, fun e he => by cases he⟩
    · rw [if_neg q]
      obtain ⟨j, hj, ej⟩ := h.2.2.2.1.resolve_left q
      rw [ej, nI_clamp (by omega)]
      refine ⟨by simp, fun e he => ?_⟩
      simp at he
      rcases he with rfl | rfl | rfl
      · exact ⟨by dsimp only; omega, by dsimp only; omega, by dsimp only; omega, by dsimp only; omega⟩
      · exact ⟨by dsimp only; omega, by dsimp only; omega, by dsimp only; omega, by dsimp only; omega⟩
      · exact ⟨by dsimp only; omega, by dsimp only; omega, by dsimp only; omega, by dsimp only; omega⟩
  refine ⟨?_, fun e he => ?_⟩
  · rw [List.length_append, List.length_append]
    have := b2.1
    have := b3.1
    show 2 + _ ≤ 7
    omega
  · rcases List.mem_append.mp he with q | q
    · exact b1 e q
    · rcases List.mem_append.mp q with q | q
      · exact b2.2 e q
      · exact b3.2 e q
theorem gl_ok {c : Nat → Int32} {n : Nat} (hw : WF c n) : ∀ p, p ≤ n → (gl c p).length ≤ 7 * p ∧ ∀ e ∈ gl c p, e.1 < 2 * p ∧ e.2.1 < 2 * p ∧ -100 ≤ e.2.2 ∧ e.2.2 ≤ 15
  | 0, _ => ⟨Nat.le_refl 0, fun e he => by cases he⟩
  | p + 1, hp => by
    have h16 := hw.1
    obtain ⟨a, b⟩ := gl_ok hw p (by omega)
    obtain ⟨d, f⟩ := gp_ok (show p < 16 by omega) (hw.2.2.2.2 p (by omega))
    refine ⟨?_, fun e he => ?_⟩
    · show (gl c p ++ gp c p).length ≤ _
      rw [List.length_append]; omega
    · rcases List.mem_append.mp he with q | q
      · obtain ⟨x, y, z⟩ := b e q
        exact ⟨by omega, by omega, z⟩
      · exact f e q
def GRep (M : MM) (G : List Ed) : Prop := M 3 6 = nI G.length ∧ ∀ (i : Nat) (e : Ed), G[i]? = some e → M 16 i = nI e.1 ∧ M 17 i = nI e.2.1 ∧ (M 18 i).toInt = e.2.2
theorem gete {G : List Ed} {k : Nat} (h : k < G.length) : ∃ e, G[k]? = some e := ⟨G[k], List.getElem?_eq_getElem h⟩
theorem gete_lt {G : List Ed} {k : Nat} {e : Ed} (h : G[k]? = some e) : k < G.length := by
  rcases Nat.lt_or_ge k G.length with q | q
  · exact q
  · rw [List.getElem?_eq_none q] at h; cases h
/-- the cells of the years change, of its object the number of gaps alone -/
def FrG (M M1 : MM) : Prop := (∀ q, q ≠ 3 → q ≠ 16 → q ≠ 17 → q ≠ 18 → M1 q = M q) ∧ ∀ j, j ≠ 6 → M1 3 j = M 3 j
theorem FrG_rf {M : MM} : FrG M M := ⟨fun _ _ _ _ _ => rfl, fun _ _ => rfl⟩
theorem FrG_tr {M M1 M2 : MM} (h : FrG M M1) (h2 : FrG M1 M2) : FrG M M2 := ⟨fun q a b d e => (h2.1 q a b d e).trans (h.1 q a b d e), fun j a => (h2.2 j a).trans (h.2 j a)⟩
theorem div_ok {a b : Nat} (ha : a < 2 ^ 31) (hb : b < 2 ^ 31) (h0 : 0 < b) : z_div (nI a) (nI b) = some (nI (a / b)) := by
  unfold z_div
  have hb0 : ¬ nI b = 0 := fun x => by
    have := nI_inj hb (by decide) (show nI b = nI 0 from x)
    omega
  rw [if_neg hb0, pk_div ha h0 hb]
theorem X9_isMoment {M : MM} {N m : Nat} (h : M 3 5 = nI N) (hN : N ≤ 32) (hm : m < N) : f_X9_isMoment M (nI m) = some 1 := by
  unfold f_X9_isMoment
  rw [if_neg (nI_nlt0 (by omega)), h, if_neg (nI_ge hm (by omega)), b_s, rz1]
theorem X9_half {M : MM} {n : Nat} (h : M 3 5 = nI (2 * n)) (hn : n ≤ 16) : z_div (M 3 5) (2 : Int32) = some (nI n) := by
  rw [h, show z_div (nI (2 * n)) (2 : Int32) = _ from div_ok (b := 2) (by omega) (by decide) (by decide), show 2 * n / 2 = n by omega]
theorem X9_addGap {M : MM} {G : List Ed} {N : Nat} (h : GRep M G) (h5 : M 3 5 = nI N) (hN : N ≤ 32) (hl : G.length < 112) (a b : Nat) (g : Int32) (ha : a < N) (hb : b < N) : ∃ M1, f_X9_addGap M (nI a) (nI b) g = some M1 ∧ GRep M1 (G ++ [(a, b, g.toInt)]) ∧ FrG M M1 := by
  unfold f_X9_addGap
  rw [h.1, if_neg (show ¬ (112 : Int32) ≤ nI G.length from nI_ge (b := 112) hl (by decide)), X9_isMoment h5 hN ha, b_s, if_neg (by decide), X9_isMoment h5 hN hb, b_s, if_neg (by decide), sto_ok hl, b_s, mst_n _ _ _ (by decide), h.1, sto_ok hl, b_s, mst_n _ _ _ (by decide), mst_n _ _ _ (by decide), h.1, sto_ok hl, b_s, mst_n _ _ _ (by decide), mst_n _ _ _ (by decide), mst_n _ _ _ (by decide), h.1, nI_1, show ∀ (M : MM) v, z_stf M 3 6 v = some (mst M 3 6 v) from fun _ _ => rfl, b_s, b_s]
  refine ⟨_, rfl, ⟨by rw [mst_ss]; simp, fun i e he => ?_⟩, fun q x y z w => ?_, fun j hj => ?_⟩
  · rw [mst_n _ _ _ (show 16 ≠ 3 by decide), mst_n _ _ _ (show 16 ≠ 18 by decide), mst_n _ _ _ (show 16 ≠ 17 by decide), mst_n _ _ _ (show 17 ≠ 3 by decide), mst_n _ _ _ (show 17 ≠ 18 by decide), mst_n _ _ _ (show 18 ≠ 3 by decide)]
    rcases Nat.lt_or_ge i G.length with q | q
    · rw [List.getElem?_append_left q] at he
      rw [mst_sn _ _ _ (by omega), mst_sn _ _ _ (by omega), mst_sn _ _ _ (by omega), mst_n _ _ _ (show 17 ≠ 16 by decide), mst_n _ _ _ (show 18 ≠ 17 by decide), mst_n _ _ _ (show 18 ≠ 16 by decide)]
      exact h.2 i e he
    · rw [List.getElem?_append_right q] at he
      rcases Nat.eq_or_lt_of_le q with z | z
      · subst z
        rw [Nat.sub_self] at he
        cases he
        rw [mst_ss, mst_ss, mst_ss]
        exact ⟨rfl, rfl, rfl⟩
      · rw [List.getElem?_eq_none (by simp; omega)] at he
        cases he
  · rw [mst_n _ _ _ x, mst_n _ _ _ w, mst_n _ _ _ z, mst_n _ _ _ y]
  · rw [mst_sn _ _ _ hj, mst_n _ _ _ (by decide), mst_n _ _ _ (by decide), mst_n _ _ _ (by decide)]
theorem X9_birth (M : MM) (p : Nat) : f_X9_birth M (nI p) = some (nI (2 * p)) := by
  unfold f_X9_birth
  rw [show (2 : Int32) * nI p = nI (2 * p) from pk_mul 2 p]
theorem X9_death (M : MM) (p : Nat) : f_X9_death M (nI p) = some (nI (2 * p + 1)) := by
  unfold f_X9_death
  rw [show (2 : Int32) * nI p = nI (2 * p) from pk_mul 2 p, nI_1]
section Gaps
variable {c : Nat → Int32} {n : Nat}
theorem X9_layGaps_L7 (hw : WF c n) : ∀ (j i m : Nat) (M : MM), i + j = n → j < m → Rc c M → M 3 5 = nI (2 * n) → GRep M (gl c i) → ∃ M1, f_X9_layGaps_L7 m M (nI i) = some M1 ∧ GRep M1 (gl c n) ∧ FrG M M1 := by
  have h16 := hw.1
  intro j
  induction j with
  | zero =>
    intro i m M hi hm hc h5 hg
    obtain ⟨m, rfl⟩ : ∃ m', m = m' + 1 := ⟨m - 1, by omega⟩
    obtain rfl : i = n := by omega
    refine ⟨M, ?_, hg, FrG_rf⟩
    rw [f_X9_layGaps_L7, X9_half h5 h16, b_s, if_pos (nI_le (by omega) (by omega))]
  | succ j ih =>
    intro i m M hi hm hc h5 hg
    obtain ⟨m, rfl⟩ : ∃ m', m = m' + 1 := ⟨m - 1, by omega⟩
    have hlen := (gl_ok hw i (by omega)).1
    have hcF : ∀ {M1 : MM}, FrG M M1 → Rc c M1 := fun F i hi => by rw [F.1 10 (by decide) (by decide) (by decide) (by decide)]; exact hc i hi
    have h5F : ∀ {M1 : MM}, FrG M M1 → M1 3 5 = nI (2 * n) := fun F => by rw [F.2 5 (by decide)]; exact h5
    obtain ⟨M1, e1, g1, F1⟩ := X9_addGap hg h5 (by omega) (by omega) (2 * i) (2 * i + 1) 0 (by omega) (by omega)
    obtain ⟨M2, e2, g2, F2⟩ := X9_addGap g1 (h5F F1) (by omega) (by rw [List.length_append]; simp; omega) (2 * i + 1) (2 * i) (-100) (by omega) (by omega)
    rw [f_X9_layGaps_L7, X9_half h5 h16, b_s, if_neg (nI_ge (by omega) (by omega)), X7_f2 hc hw (by omega), b_s, X7_f3 hc hw (by omega), b_s, X9_birth, b_s, X9_death, b_s, e1, b_s, X9_death, b_s, X9_birth, b_s, e2, b_s, nI_1]
    have F12 := FrG_tr F1 F2
    have s3 : ∃ M3, (if c (13 + 8 * i + 2) = (-1 : Int32) then some M2 else (f_X9_birth M2 (c (13 + 8 * i + 2))).bind fun v64 => (f_X9_birth M2 (nI i)).bind fun v68 => (f_X9_addGap M2 v64 v68 (15 : Int32)).bind fun M73 => (f_X9_birth M73 (nI i)).bind fun v78 => (f_X9_death M73 (c (13 + 8 * i + 2))).bind fun v82 => (f_X9_addGap M73 v78 v82 (-1 : Int32)).bind fun M86 => some M86) = some M3 ∧ GRep M3 ((gl c i ++ [(2 * i, 2 * i + 1, 0), (2 * i + 1, 2 * i, -100)]) ++ (if c (13 + 8 * i + 2) = -1 then [] else [(2 * (c (13 + 8 * i + 2)).toNatClampNeg, 2 * i, 15), (2 * i, 2 * (c (13 + 8 * i + 2)).toNatClampNeg + 1, -1)])) ∧ FrG M M3 := by
      have g2' : GRep M2 (gl c i ++ [(2 * i, 2 * i + 1, 0), (2 * i + 1, 2 * i, -100)]) := by
        rw [List.append_assoc] at g2
        exact g2
      by_cases q : c (13 + 8 * i + 2) = -1
      · rw [if_pos q, if_pos q, List.append_nil]
        exact ⟨M2, rfl, g2', F12⟩
      · obtain ⟨f, hf, ef⟩ := (hw.2.2.2.2 i (by omega)).2.2.1.resolve_left q
        obtain ⟨M3, e3, g3, F3⟩ := X9_addGap g2' (h5F F12) (by omega) (by rw [List.length_append]; simp; omega) (2 * f) (2 * i) 15 (by omega) (by omega)
        obtain ⟨M4, e4, g4, F4⟩ := X9_addGap g3 (h5F (FrG_tr F12 F3)) (by omega) (by rw [List.length_append, List.length_append]; simp; omega) (2 * i) (2 * f + 1) (-1) (by omega) (by omega)
        rw [if_neg q, if_neg q, ef, X9_birth, b_s, X9_birth, b_s, e3, b_s, X9_birth, b_s, X9_death, b_s, e4, b_s, nI_clamp (by omega)]
        rw [List.append_assoc _ [_] [_]] at g4
        exact ⟨M4, rfl, g4, FrG_tr F12 (FrG_tr F3 F4)⟩
    obtain ⟨M3, e3, g3, F3⟩ := s3
    rw [e3, b_s]
    have l3 : ((gl c i ++ [(2 * i, 2 * i + 1, 0), (2 * i + 1, 2 * i, -100)]) ++ (if c (13 + 8 * i + 2) = -1 then ([] : List Ed) else [(2 * (c (13 + 8 * i + 2)).toNatClampNeg, 2 * i, 15), (2 * i, 2 * (c (13 + 8 * i + 2)).toNatClampNeg + 1, -1)])).length ≤ 7 * i + 4 := by
      rw [List.length_append, List.length_append]
      by_cases q : c (13 + 8 * i + 2) = -1
      · rw [if_pos q]; simp; omega
      · rw [if_neg q]; simp; omega
    have fin : ∀ (M4 : MM), GRep M4 (gl c (i + 1)) → FrG M M4 → ∃ M5, (some M4).bind (fun j92 => f_X9_layGaps_L7 m j92 (nI (i + 1))) = some M5 ∧ GRep M5 (gl c n) ∧ FrG M M5 := by
      intro M4 g4 F4
      rw [b_s]
      obtain ⟨M5, e5, g5, F5⟩ := ih (i + 1) m M4 (by omega) (by omega) (hcF F4) (h5F F4) g4
      exact ⟨M5, e5, g5, FrG_tr F4 F5⟩
    by_cases q : c (13 + 8 * i + 3) = -1
    · rw [if_pos q]
      refine fin M3 ?_ F3
      show GRep M3 (gl c i ++ gp c i)
      unfold gp
      rw [if_pos q, List.append_nil, ← List.append_assoc]
      exact g3
    · obtain ⟨f, hf, ef⟩ := (hw.2.2.2.2 i (by omega)).2.2.2.1.resolve_left q
      obtain ⟨M4, e4, g4, F4⟩ := X9_addGap g3 (h5F F3) (by omega) (by omega) (2 * f) (2 * i) 15 (by omega) (by omega)
      obtain ⟨M5, e5, g5, F5⟩ := X9_addGap g4 (h5F (FrG_tr F3 F4)) (by omega) (by rw [List.length_append]; simp only [List.length_singleton]; omega) (2 * i) (2 * f) (-50) (by omega) (by omega)
      obtain ⟨M6, e6, g6, F6⟩ := X9_addGap g5 (h5F (FrG_tr F3 (FrG_tr F4 F5))) (by omega) (by rw [List.length_append, List.length_append]; simp only [List.length_singleton]; omega) (2 * i) (2 * f + 1) 0 (by omega) (by omega)
      rw [if_neg q, ef, X9_birth, b_s, X9_birth, b_s, e4, b_s, X9_birth, b_s, X9_birth, b_s, e5, b_s, X9_birth, b_s, X9_death, b_s, e6, b_s]
      refine fin M6 ?_ (FrG_tr F3 (FrG_tr F4 (FrG_tr F5 F6)))
      show GRep M6 (gl c i ++ gp c i)
      unfold gp
      rw [if_neg q, ef, nI_clamp (by omega), ← List.append_assoc, ← List.append_assoc]
      have e7 : ∀ (X : List Ed) (a b d : Ed), X ++ [a] ++ [b] ++ [d] = X ++ [a, b, d] := by intros; simp
      rw [e7] at g6
      exact g6
theorem X9_layGaps {M : MM} (hw : WF c n) (hc : Rc c M) (h5 : M 3 5 = nI (2 * n)) : ∃ M1, f_X9_layGaps M = some M1 ∧ GRep M1 (gl c n) ∧ FrG M M1 := by
  have h16 := hw.1
  unfold f_X9_layGaps
  rw [show z_stf M 3 6 0 = some (mst M 3 6 0) from rfl, b_s]
  have F0 : FrG M (mst M 3 6 0) := ⟨fun q a _ _ _ => mst_n _ _ _ a, fun j hj => mst_sn _ _ _ hj⟩
  obtain ⟨M1, e1, g1, F1⟩ := X9_layGaps_L7 hw n 0 FU (mst M 3 6 0) (by omega) (by unfold FU; omega) (fun i hi => by rw [mst_n _ _ _ (by decide)]; exact hc i hi) (by rw [mst_sn _ _ _ (by decide)]; exact h5) ⟨mst_ss _ _ _ _, fun i e h => by simp [gl] at h⟩
  rw [show f_X9_layGaps_L7 FU (mst M 3 6 0) (0 : Int32) = some M1 from e1, b_s]
  exact ⟨M1, rfl, g1, FrG_tr F0 F1⟩
theorem X9_layBounds_L2 (hw : WF c n) : ∀ (j i m : Nat) (M : MM), i + j = n → j < m → Rc c M → M 3 5 = nI (2 * n) → (∀ p, p < i → M 14 (2 * p) = c (13 + 8 * p + 4) ∧ M 15 (2 * p) = c (13 + 8 * p + 5) ∧ M 14 (2 * p + 1) = c (13 + 8 * p + 6) ∧ M 15 (2 * p + 1) = c (13 + 8 * p + 7)) → ∃ M1, f_X9_layBounds_L2 m M (nI i) = some M1 ∧ (∀ p, p < n → M1 14 (2 * p) = c (13 + 8 * p + 4) ∧ M1 15 (2 * p) = c (13 + 8 * p + 5) ∧ M1 14 (2 * p + 1) = c (13 + 8 * p + 6) ∧ M1 15 (2 * p + 1) = c (13 + 8 * p + 7)) ∧ ∀ q, q ≠ 14 → q ≠ 15 → M1 q = M q := by
  have h16 := hw.1
  intro j
  induction j with
  | zero =>
    intro i m M hi hm hc h5 hb
    obtain ⟨m, rfl⟩ : ∃ m', m = m' + 1 := ⟨m - 1, by omega⟩
    obtain rfl : i = n := by omega
    refine ⟨M, ?_, hb, fun _ _ _ => rfl⟩
    rw [f_X9_layBounds_L2, X9_half h5 h16, b_s, if_pos (nI_le (by omega) (by omega))]
  | succ j ih =>
    intro i m M hi hm hc h5 hb
    obtain ⟨m, rfl⟩ : ∃ m', m = m' + 1 := ⟨m - 1, by omega⟩
    have k14 : ∀ (M : MM) (j : Nat) (v : Int32), Rc c M → Rc c (mst M 14 j v) := fun M j v h i hi => by rw [mst_n _ _ _ (by decide)]; exact h i hi
    have k15 : ∀ (M : MM) (j : Nat) (v : Int32), Rc c M → Rc c (mst M 15 j v) := fun M j v h i hi => by rw [mst_n _ _ _ (by decide)]; exact h i hi
    rw [f_X9_layBounds_L2, X9_half h5 h16, b_s, if_neg (nI_ge (by omega) (by omega)), X9_birth, b_s, X7_f4 hc hw (by omega), b_s, sto_ok (by omega), b_s, X9_birth, b_s, X7_f5 (k14 _ _ _ hc) hw (by omega), b_s, sto_ok (by omega), b_s, X9_death, b_s, X7_f6 (k15 _ _ _ (k14 _ _ _ hc)) hw (by omega), b_s, sto_ok (by omega), b_s, X9_death, b_s, X7_f7 (k14 _ _ _ (k15 _ _ _ (k14 _ _ _ hc))) hw (by omega), b_s, sto_ok (by omega), b_s, nI_1]
    obtain ⟨M1, e1, g1, g2⟩ := ih (i + 1) m _ (by omega) (by omega) (k15 _ (2 * i + 1) (c (13 + 8 * i + 7)) (k14 _ (2 * i + 1) (c (13 + 8 * i + 6)) (k15 _ (2 * i) (c (13 + 8 * i + 5)) (k14 M (2 * i) (c (13 + 8 * i + 4)) hc)))) (by rw [mst_n _ _ _ (by decide), mst_n _ _ _ (by decide), mst_n _ _ _ (by decide), mst_n _ _ _ (by decide)]; exact h5) (fun p hp => by
      rcases Nat.lt_or_ge p i with q | q
      · obtain ⟨a1, a2, a3, a4⟩ := hb p q
        refine ⟨?_, ?_, ?_, ?_⟩
        · rw [mst_n _ _ _ (by decide), mst_sn _ _ _ (by omega), mst_n _ _ _ (by decide), mst_sn _ _ _ (by omega)]; exact a1
        · rw [mst_sn _ _ _ (by omega), mst_n _ _ _ (by decide), mst_sn _ _ _ (by omega), mst_n _ _ _ (by decide)]; exact a2
        · rw [mst_n _ _ _ (by decide), mst_sn _ _ _ (by omega), mst_n _ _ _ (by decide), mst_sn _ _ _ (by omega)]; exact a3
        · rw [mst_sn _ _ _ (by omega), mst_n _ _ _ (by decide), mst_sn _ _ _ (by omega), mst_n _ _ _ (by decide)]; exact a4
      · obtain rfl : p = i := by omega
        refine ⟨?_, ?_, ?_, ?_⟩
        · rw [mst_n _ _ _ (by decide), mst_sn _ _ _ (by omega), mst_n _ _ _ (by decide), mst_ss]
        · rw [mst_sn _ _ _ (by omega), mst_n _ _ _ (by decide), mst_ss]
        · rw [mst_n _ _ _ (by decide), mst_ss]
        · rw [mst_ss])
    refine ⟨M1, e1, g1, fun q a b => ?_⟩
    rw [g2 q a b, mst_n _ _ _ b, mst_n _ _ _ a, mst_n _ _ _ b, mst_n _ _ _ a]
theorem X9_layBounds {M : MM} (hw : WF c n) (hc : Rc c M) (h5 : M 3 5 = nI (2 * n)) : ∃ M1, f_X9_layBounds M = some M1 ∧ (∀ p, p < n → M1 14 (2 * p) = c (13 + 8 * p + 4) ∧ M1 15 (2 * p) = c (13 + 8 * p + 5) ∧ M1 14 (2 * p + 1) = c (13 + 8 * p + 6) ∧ M1 15 (2 * p + 1) = c (13 + 8 * p + 7)) ∧ ∀ q, q ≠ 14 → q ≠ 15 → M1 q = M q := by
  have h16 := hw.1
  obtain ⟨M1, e1, g1, g2⟩ := X9_layBounds_L2 hw n 0 FU M (by omega) (by unfold FU; omega) hc h5 (fun p hp => by omega)
  refine ⟨M1, ?_, g1, g2⟩
  unfold f_X9_layBounds
  rw [show f_X9_layBounds_L2 FU M (0 : Int32) = some M1 from e1, b_s]
end Gaps
