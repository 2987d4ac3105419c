/-! the law's narrowing: the same gaps, least and greatest narrowed together until nothing moves or it is spoiled -/
theorem stb_ok (M : MM) (q j : Nat) {v : Int32} (h : v = 0 ∨ v = 1) : z_stb M q j v = some (mst M q j v) := by
  unfold z_stb
  rw [if_pos h]
theorem rnd_app (G1 G2 : List Ed) (y : Nat → Int) : rnd (G1 ++ G2) y = rnd G2 (rnd G1 y) := List.foldl_append
theorem Rv_app (G1 G2 : List Ed) : Rv (G1 ++ G2) = Rv G1 ++ Rv G2 := List.map_append
theorem fire_app : ∀ (G1 G2 : List Ed) (y : Nat → Int), fire y (G1 ++ G2) ↔ fire y G1 ∨ fire (rnd G1 y) G2
  | [], G2, y => ⟨Or.inr, fun h => h.elim (fun x => x.elim) id⟩
  | e :: t, G2, y => by
    show (_ ∨ fire (rl y e) (t ++ G2)) ↔ (_ ∨ fire (rl y e) t) ∨ fire (rnd t (rl y e)) G2
    rw [fire_app t G2 (rl y e), or_assoc]
theorem fire_gt {N : Nat} : ∀ {G : List Ed} {y : Nat → Int}, inN N G → fire y G → ∃ m, m < N ∧ y m < rnd G y m
  | e :: t, y, hi, h => by
    have hi2 : inN N t := fun d hd => hi d (List.mem_cons_of_mem _ hd)
    rcases h with h | h
    · refine ⟨e.2.1, (hi e List.mem_cons_self).2, ?_⟩
      have a := rl_at y e
      have b := rnd_ge t (rl y e) e.2.1
      show y e.2.1 < rnd t (rl y e) e.2.1
      omega
    · obtain ⟨m, h1, h2⟩ := fire_gt hi2 h
      refine ⟨m, h1, ?_⟩
      have := rl_ge y e m
      show y m < rnd t (rl y e) m
      omega
def sm (f : Nat → Int) : Nat → Int
  | 0 => 0
  | n + 1 => sm f n + f n
theorem sm_le {f g : Nat → Int} : ∀ {n : Nat}, (∀ m, m < n → f m ≤ g m) → sm f n ≤ sm g n
  | 0, _ => Int.le_refl _
  | n + 1, h => by
    have a := sm_le (n := n) (fun m hm => h m (by omega))
    have b := h n (by omega)
    show sm f n + f n ≤ sm g n + g n
    omega
theorem sm_lt {f g : Nat → Int} : ∀ {n : Nat}, (∀ m, m < n → f m ≤ g m) → (∃ m, m < n ∧ f m < g m) → sm f n < sm g n
  | 0, _, ⟨m, h, _⟩ => absurd h (Nat.not_lt_zero m)
  | n + 1, h, ⟨m, h1, h2⟩ => by
    show sm f n + f n < sm g n + g n
    have b := h n (by omega)
    rcases Nat.lt_or_ge m n with q | q
    · have := sm_lt (n := n) (fun k hk => h k (by omega)) ⟨m, q, h2⟩
      omega
    · obtain rfl : m = n := by omega
      have := sm_le (n := m) (fun k hk => h k (by omega))
      omega
theorem sm_b {f : Nat → Int} {B : Int} (h : ∀ m, f m ≤ B) : ∀ n : Nat, sm f n ≤ B * n
  | 0 => by show (0 : Int) ≤ B * 0; omega
  | n + 1 => by
    have := sm_b h n
    have := h n
    show sm f n + f n ≤ B * ((n + 1 : Nat) : Int)
    rw [show ((n + 1 : Nat) : Int) = (n : Int) + 1 by omega, Int.mul_add, Int.mul_one]
    omega
theorem sm_0 {f : Nat → Int} : ∀ {n : Nat}, (∀ m, m < n → 0 ≤ f m) → 0 ≤ sm f n
  | 0, _ => Int.le_refl _
  | n + 1, h => by
    have a := sm_0 (n := n) (fun m hm => h m (by omega))
    have b := h n (by omega)
    show 0 ≤ sm f n + f n
    omega
/-- where the law keeps a moment -/
def rm (m : Nat) : Nat := m / 2 + 16 * (m % 2)
theorem rm_0 (p : Nat) : rm (2 * p) = p := by unfold rm; omega
theorem rm_1 (p : Nat) : rm (2 * p + 1) = 16 + p := by unfold rm; omega
theorem rm_lt {m : Nat} (h : m < 32) : rm m < 32 := by unfold rm; omega
theorem rm_inj {a b : Nat} (ha : a < 32) (hb : b < 32) (h : rm a = rm b) : a = b := by unfold rm at h; omega
def NS (N : Nat) (B : Int) (M : MM) (y z : Nat → Int) : Prop := (∀ m, m < N → (M 41 (rm m)).toInt = y m ∧ (M 42 (rm m)).toInt = -(z m)) ∧ ∀ m, m < N → -1000 ≤ y m ∧ y m ≤ B ∧ -1000 ≤ z m ∧ z m ≤ B
def FrN (M M1 : MM) : Prop := (∀ q, q ≠ 31 → q ≠ 41 → q ≠ 42 → M1 q = M q) ∧ ∀ i, i ≠ 14 → M1 31 i = M 31 i
theorem FrN_r (M : MM) : FrN M M := ⟨fun _ _ _ _ => rfl, fun _ _ => rfl⟩
theorem FrN_t {M M1 M2 : MM} (h : FrN M M1) (h2 : FrN M1 M2) : FrN M M2 := ⟨fun q a b d => (h2.1 q a b d).trans (h.1 q a b d), fun i hi => (h2.2 i hi).trans (h.2 i hi)⟩
def FL (y z : Nat → Int) (G : List Ed) (a b : Int32) : Prop := (b = 1 ∧ (a = 1 ∨ fire y G ∨ fire z (Rv G))) ∨ (b = a ∧ ¬ fire y G ∧ ¬ fire z (Rv G))
def ND (N : Nat) (B : Int) (M : MM) (y z : Nat → Int) (G : List Ed) (M1 : MM) : Prop := NS N (B + 15 * G.length) M1 (rnd G y) (rnd (Rv G) z) ∧ FrN M M1 ∧ FL y z G (M 31 14) (M1 31 14)
theorem ND_r {N : Nat} {B : Int} {M : MM} {y z : Nat → Int} (h : NS N B M y z) : ND N B M y z [] M := ⟨⟨h.1, fun m hm => by have := h.2 m hm; show -1000 ≤ y m ∧ y m ≤ B + 15 * ((0 : Nat) : Int) ∧ -1000 ≤ z m ∧ z m ≤ B + 15 * ((0 : Nat) : Int); omega⟩, FrN_r M, Or.inr ⟨rfl, fun x => x, fun x => x⟩⟩
theorem ND_app {N : Nat} {B : Int} {M M1 M2 : MM} {y z : Nat → Int} {G1 G2 : List Ed} (h : ND N B M y z G1 M1) (h2 : ND N (B + 15 * G1.length) M1 (rnd G1 y) (rnd (Rv G1) z) G2 M2) : ND N B M y z (G1 ++ G2) M2 := by
  refine ⟨?_, FrN_t h.2.1 h2.2.1, ?_⟩
  · rw [rnd_app, Rv_app, rnd_app, List.length_append, show B + 15 * ((G1.length + G2.length : Nat) : Int) = B + 15 * (G1.length : Int) + 15 * (G2.length : Int) by omega]
    exact h2.1
  · unfold FL
    rw [fire_app, Rv_app, fire_app]
    rcases h.2.2 with ⟨a1, a2⟩ | ⟨a1, a2, a3⟩
    · left
      refine ⟨?_, ?_⟩
      · rcases h2.2.2 with ⟨b1, -⟩ | ⟨b1, -⟩
        · exact b1
        · rw [b1, a1]
      · rcases a2 with q | q | q
        · exact Or.inl q
        · exact Or.inr (Or.inl (Or.inl q))
        · exact Or.inr (Or.inr (Or.inl q))
    · rcases h2.2.2 with ⟨b1, b2⟩ | ⟨b1, b2, b3⟩
      · left
        refine ⟨b1, ?_⟩
        rcases b2 with q | q | q
        · exact Or.inl (a1 ▸ q)
        · exact Or.inr (Or.inl (Or.inr q))
        · exact Or.inr (Or.inr (Or.inr q))
      · right
        exact ⟨b1.trans a1, fun x => x.elim a2 b2, fun x => x.elim a3 b3⟩
theorem R_atLeast {N : Nat} {B : Int} {M : MM} {y z : Nat → Int} (hN : N ≤ 32) (h : NS N B M y z) (hB : B ≤ 1000000) (e : Ed) {u v g : Int32} (h1 : e.1 < N) (h2 : e.2.1 < N) (eu : u = nI (rm e.1)) (ev : v = nI (rm e.2.1)) (eg : g.toInt = e.2.2) (g1 : -100 ≤ e.2.2) (g2 : e.2.2 ≤ 15) : ∃ M1, f_X11_atLeast M u v g = some M1 ∧ ND N B M y z [e] M1 := by
  have r1 := rm_lt (show e.1 < 32 by omega)
  have r2 := rm_lt (show e.2.1 < 32 by omega)
  have b1 := h.2 e.1 h1
  have b2 := h.2 e.2.1 h2
  have es : (M 41 (rm e.1) + g).toInt = y e.1 + e.2.2 := by
    rw [ti_add (by rw [(h.1 e.1 h1).1, eg]; omega) (by rw [(h.1 e.1 h1).1, eg]; omega), (h.1 e.1 h1).1, eg]
  have A : ∃ M1, f_X11_atLeast M u v g = f_X11_atLeast_T36 M1 u v g ∧ (∀ m, m < N → (M1 41 (rm m)).toInt = rl y e m) ∧ (∀ q, q ≠ 31 → q ≠ 41 → M1 q = M q) ∧ (∀ i, i ≠ 14 → M1 31 i = M 31 i) ∧ ((M1 31 14 = 1 ∧ y e.2.1 < y e.1 + e.2.2) ∨ (M1 31 14 = M 31 14 ∧ ¬ y e.2.1 < y e.1 + e.2.2)) := by
    unfold f_X11_atLeast
    rw [eu, ev, ld_ok r1, b_s, ld_ok r2, b_s]
    by_cases q : y e.2.1 < y e.1 + e.2.2
    · have hn : ¬ (M 41 (rm e.1) + g) ≤ M 41 (rm e.2.1) := by
        rw [ti_le, es, (h.1 e.2.1 h2).1]; omega
      rw [if_neg hn, b_s, sto_ok r2, b_s, stb_ok _ _ _ (Or.inr rfl), b_s, b_s]
      refine ⟨_, rfl, fun m hm => ?_, fun k a b => ?_, fun i hi => ?_, Or.inl ⟨mst_ss _ _ _ _, q⟩⟩
      · rw [mst_n _ _ _ (show 41 ≠ 31 by decide)]
        unfold rl
        by_cases w : m = e.2.1
        · subst w
          rw [if_pos ⟨rfl, q⟩, mst_ss, es]
        · rw [if_neg (fun x => w x.1), mst_sn _ _ _ (fun x => w (rm_inj (by omega) (by omega) x))]
          exact (h.1 m hm).1
      · rw [mst_n _ _ _ a, mst_n _ _ _ b]
      · rw [mst_sn _ _ _ hi, mst_n _ _ _ (show 31 ≠ 41 by decide)]
    · have hn : (M 41 (rm e.1) + g) ≤ M 41 (rm e.2.1) := by
        rw [ti_le, es, (h.1 e.2.1 h2).1]; omega
      rw [if_pos hn, b_s]
      refine ⟨M, rfl, fun m hm => ?_, fun _ _ _ => rfl, fun _ _ => rfl, Or.inr ⟨rfl, q⟩⟩
      rw [rl_no q]; exact (h.1 m hm).1
  obtain ⟨M1, e1, k1, k2, k3, k4⟩ := A
  have h42 : M1 42 = M 42 := k2 42 (by decide) (by decide)
  have et : (M1 42 (rm e.2.1) - g).toInt = -(z e.2.1) - e.2.2 := by
    rw [h42, ti_sub (by rw [(h.1 e.2.1 h2).2, eg]; omega) (by rw [(h.1 e.2.1 h2).2, eg]; omega), (h.1 e.2.1 h2).2, eg]
  have C : ∃ M2, f_X11_atLeast_T36 M1 u v g = some M2 ∧ (∀ m, m < N → (M2 42 (rm m)).toInt = -(rl z (rv e) m)) ∧ (∀ q, q ≠ 31 → q ≠ 42 → M2 q = M1 q) ∧ (∀ i, i ≠ 14 → M2 31 i = M1 31 i) ∧ ((M2 31 14 = 1 ∧ z e.1 < z e.2.1 + e.2.2) ∨ (M2 31 14 = M1 31 14 ∧ ¬ z e.1 < z e.2.1 + e.2.2)) := by
    unfold f_X11_atLeast_T36
    rw [eu, ev, ld_ok r2, b_s, ld_ok r1, b_s]
    by_cases q : z e.1 < z e.2.1 + e.2.2
    · have hn : ¬ M1 42 (rm e.1) ≤ (M1 42 (rm e.2.1) - g) := by
        rw [ti_le, et, h42, (h.1 e.1 h1).2]; omega
      rw [if_neg hn, b_s, sto_ok r1, b_s, stb_ok _ _ _ (Or.inr rfl), b_s, b_s]
      refine ⟨_, rfl, fun m hm => ?_, fun k a b => ?_, fun i hi => ?_, Or.inl ⟨mst_ss _ _ _ _, q⟩⟩
      · rw [mst_n _ _ _ (show 42 ≠ 31 by decide)]
        unfold rl
        by_cases w : m = e.1
        · subst w
          rw [if_pos ⟨rfl, q⟩, mst_ss, et]
          show -(z e.2.1) - e.2.2 = -(z e.2.1 + e.2.2)
          omega
        · rw [if_neg (fun x => w x.1), mst_sn _ _ _ (fun x => w (rm_inj (by omega) (by omega) x)), h42]
          exact (h.1 m hm).2
      · rw [mst_n _ _ _ a, mst_n _ _ _ b]
      · rw [mst_sn _ _ _ hi, mst_n _ _ _ (show 31 ≠ 42 by decide)]
    · have hn : M1 42 (rm e.1) ≤ (M1 42 (rm e.2.1) - g) := by
        rw [ti_le, et, h42, (h.1 e.1 h1).2]; omega
      rw [if_pos hn, b_s]
      refine ⟨M1, rfl, fun m hm => ?_, fun _ _ _ => rfl, fun _ _ => rfl, Or.inr ⟨rfl, q⟩⟩
      rw [rl_no (e := rv e) q, h42]; exact (h.1 m hm).2
  obtain ⟨M2, e2, j1, j2, j3, j4⟩ := C
  refine ⟨M2, e1.trans e2, ⟨fun m hm => ⟨?_, j1 m hm⟩, fun m hm => ?_⟩, ⟨fun q a b d => (j2 q a d).trans (k2 q a b), fun i hi => (j3 i hi).trans (k3 i hi)⟩, ?_⟩
  · rw [j2 41 (by decide) (by decide)]; exact k1 m hm
  · have a := h.2 m hm
    have b := rl_ge y e m
    have d := rl_ge z (rv e) m
    have f1 : rl y e m ≤ B + 15 := by
      unfold rl
      by_cases q : m = e.2.1 ∧ y e.2.1 < y e.1 + e.2.2
      · rw [if_pos q]; omega
      · rw [if_neg q]; omega
    have f2 : rl z (rv e) m ≤ B + 15 := by
      unfold rl
      by_cases q : m = (rv e).2.1 ∧ z (rv e).2.1 < z (rv e).1 + (rv e).2.2
      · rw [if_pos q]
        show z e.2.1 + e.2.2 ≤ B + 15
        omega
      · rw [if_neg q]; omega
    show -1000 ≤ rl y e m ∧ rl y e m ≤ B + 15 * ((1 : Nat) : Int) ∧ -1000 ≤ rl z (rv e) m ∧ rl z (rv e) m ≤ B + 15 * ((1 : Nat) : Int)
    omega
  · have fy : fire y [e] ↔ y e.2.1 < y e.1 + e.2.2 := ⟨fun x => x.resolve_right id, Or.inl⟩
    have fz : fire z (Rv [e]) ↔ z e.1 < z e.2.1 + e.2.2 := ⟨fun x => Or.resolve_right x id, Or.inl⟩
    unfold FL
    rw [fy, fz]
    rcases j4 with ⟨p1, p2⟩ | ⟨p1, p2⟩
    · exact Or.inl ⟨p1, Or.inr (Or.inr p2)⟩
    · rcases k4 with ⟨q1, q2⟩ | ⟨q1, q2⟩
      · exact Or.inl ⟨p1.trans q1, Or.inr (Or.inl q2)⟩
      · exact Or.inr ⟨p1.trans q1, q2, p2⟩
section Narrows
variable {c : Nat → Int32} {n : Nat}
theorem R_narrowsOne {M : MM} {B : Int} {y z : Nat → Int} (hw : WF c n) (hs : Sw c (M 32) 0) {p : Nat} (hp : p < n) (h : NS (2 * n) B M y z) (hB : B ≤ 900000) : ∃ M1, f_X11_narrowsOne M (nI p) = some M1 ∧ ND (2 * n) B M y z (gp c p) M1 := by
  have h16 := hw.1
  obtain ⟨-, -, hf, hm, -⟩ := hw.2.2.2.2 p hp
  have a16 : ∀ j : Nat, (16 : Int32) + nI j = nI (16 + j) := fun j => nI_add 16 j
  unfold f_X11_narrowsOne
  rw [R_fa hs (by omega), b_s, R_mo hs (by omega), b_s, a16]
  obtain ⟨M1, e1, d1⟩ := R_atLeast (by omega) h (by omega) (2 * p, 2 * p + 1, 0) (u := nI p) (v := nI (16 + p)) (g := 0) (by show 2 * p < 2 * n; omega) (by show 2 * p + 1 < 2 * n; omega) (by rw [rm_0]) (by rw [rm_1]) (by dsimp only; decide) (by dsimp only; decide) (by dsimp only; decide)
  obtain ⟨M2, e2, d2⟩ := R_atLeast (by omega) d1.1 (by show B + 15 * ((1 : Nat) : Int) ≤ 1000000; omega) (2 * p + 1, 2 * p, -100) (u := nI (16 + p)) (v := nI p) (g := -100) (by show 2 * p + 1 < 2 * n; omega) (by show 2 * p < 2 * n; omega) (by rw [rm_1]) (by rw [rm_0]) (by dsimp only; decide) (by dsimp only; decide) (by dsimp only; decide)
  rw [e1, b_s, e2, b_s]
  have D2 := ND_app d1 d2
  have F : ∃ M3, (if c (13 + 8 * p + 2) = (-1 : Int32) then some M2 else (f_X11_atLeast M2 (c (13 + 8 * p + 2)) (nI p) (15 : Int32)).bind fun (M51 : MM) => (f_X11_atLeast M51 (nI p) ((16 : Int32) + c (13 + 8 * p + 2)) (-1 : Int32)).bind fun (M61 : MM) => some M61) = some M3 ∧ ND (2 * n) B M y z ([(2 * p, 2 * p + 1, 0), (2 * p + 1, 2 * p, -100)] ++ (if c (13 + 8 * p + 2) = -1 then [] else [(2 * (c (13 + 8 * p + 2)).toNatClampNeg, 2 * p, 15), (2 * p, 2 * (c (13 + 8 * p + 2)).toNatClampNeg + 1, -1)])) M3 := by
    by_cases q : c (13 + 8 * p + 2) = -1
    · rw [if_pos q, if_pos q]
      exact ⟨M2, rfl, by rw [List.append_nil]; exact D2⟩
    · rw [if_neg q, if_neg q]
      obtain ⟨j, hj, ej⟩ := hf.resolve_left q
      rw [ej, nI_clamp (by omega), a16]
      obtain ⟨M3, e3, d3⟩ := R_atLeast (by omega) D2.1 (by show B + 15 * ((2 : Nat) : Int) ≤ 1000000; omega) (2 * j, 2 * p, 15) (u := nI j) (v := nI p) (g := 15) (by show 2 * j < 2 * n; omega) (by show 2 * p < 2 * n; omega) (by rw [rm_0]) (by rw [rm_0]) (by dsimp only; decide) (by dsimp only; decide) (by dsimp only; decide)
      obtain ⟨M4, e4, d4⟩ := R_atLeast (by omega) d3.1 (by show B + 15 * ((2 : Nat) : Int) + 15 * ((1 : Nat) : Int) ≤ 1000000; omega) (2 * p, 2 * j + 1, -1) (u := nI p) (v := nI (16 + j)) (g := -1) (by show 2 * p < 2 * n; omega) (by show 2 * j + 1 < 2 * n; omega) (by rw [rm_0]) (by rw [rm_1]) (by dsimp only; decide) (by dsimp only; decide) (by dsimp only; decide)
      rw [e3, b_s, e4, b_s]
      exact ⟨M4, rfl, ND_app D2 (ND_app d3 d4)⟩
  obtain ⟨M3, e3, D3⟩ := F
  rw [e3, b_s]
  have l3 : (([(2 * p, 2 * p + 1, 0), (2 * p + 1, 2 * p, -100)] ++ (if c (13 + 8 * p + 2) = -1 then [] else [(2 * (c (13 + 8 * p + 2)).toNatClampNeg, 2 * p, 15), (2 * p, 2 * (c (13 + 8 * p + 2)).toNatClampNeg + 1, -1)]) : List Ed)).length ≤ 4 := by
    by_cases q : c (13 + 8 * p + 2) = -1
    · rw [if_pos q]; exact Nat.le_of_ble_eq_true rfl
    · rw [if_neg q]; exact Nat.le_of_ble_eq_true rfl
  unfold f_X11_narrowsOne_T64 gp
  rw [← List.append_assoc]
  by_cases q : c (13 + 8 * p + 3) = -1
  · rw [if_pos q, if_pos q, b_s]
    exact ⟨M3, rfl, by rw [List.append_nil]; exact D3⟩
  · rw [if_neg q, if_neg q]
    obtain ⟨j, hj, ej⟩ := hm.resolve_left q
    rw [ej, nI_clamp (by omega), a16]
    obtain ⟨M4, e4, d4⟩ := R_atLeast (by omega) D3.1 (by omega) (2 * j, 2 * p, 15) (u := nI j) (v := nI p) (g := 15) (by show 2 * j < 2 * n; omega) (by show 2 * p < 2 * n; omega) (by rw [rm_0]) (by rw [rm_0]) (by dsimp only; decide) (by dsimp only; decide) (by dsimp only; decide)
    obtain ⟨M5, e5, d5⟩ := R_atLeast (by omega) d4.1 (by show B + 15 * _ + 15 * ((1 : Nat) : Int) ≤ 1000000; omega) (2 * p, 2 * j, -50) (u := nI p) (v := nI j) (g := -50) (by show 2 * p < 2 * n; omega) (by show 2 * j < 2 * n; omega) (by rw [rm_0]) (by rw [rm_0]) (by dsimp only; decide) (by dsimp only; decide) (by dsimp only; decide)
    obtain ⟨M6, e6, d6⟩ := R_atLeast (by omega) d5.1 (by show B + 15 * _ + 15 * ((1 : Nat) : Int) + 15 * ((1 : Nat) : Int) ≤ 1000000; omega) (2 * p, 2 * j + 1, 0) (u := nI p) (v := nI (16 + j)) (g := 0) (by show 2 * p < 2 * n; omega) (by show 2 * j + 1 < 2 * n; omega) (by rw [rm_0]) (by rw [rm_1]) (by dsimp only; decide) (by dsimp only; decide) (by dsimp only; decide)
    rw [e4, b_s, e5, b_s, e6, b_s, b_s]
    exact ⟨M6, rfl, ND_app D3 (ND_app d4 (ND_app d5 d6))⟩
theorem R_narrows_L122 {M0 : MM} {B : Int} {y z : Nat → Int} (hw : WF c n) (hs : Sw c (M0 32) 0) (hB : B ≤ 800000) : ∀ (j i m : Nat) (M : MM), i + j = n → j < m → ND (2 * n) B M0 y z (gl c i) M → ∃ M1, f_X11_narrows_L122 m M (nI i) = some M1 ∧ ND (2 * n) B M0 y z (gl c n) M1 := by
  have h16 := hw.1
  intro j
  induction j with
  | zero =>
    intro i m M hi hm hd
    obtain ⟨m, rfl⟩ : ∃ m', m = m' + 1 := ⟨m - 1, by omega⟩
    obtain rfl : i = n := by omega
    have hs1 : Sw c (M 32) 0 := by rw [hd.2.1.1 32 (by decide) (by decide) (by decide)]; exact hs
    rw [f_X11_narrows_L122, R_n hs1 hw, b_s, if_pos (nI_le (Nat.le_refl _) (by omega))]
    exact ⟨M, rfl, hd⟩
  | succ j ih =>
    intro i m M hi hm hd
    obtain ⟨m, rfl⟩ : ∃ m', m = m' + 1 := ⟨m - 1, by omega⟩
    have hs1 : Sw c (M 32) 0 := by rw [hd.2.1.1 32 (by decide) (by decide) (by decide)]; exact hs
    have hl := (gl_ok hw i (by omega)).1
    obtain ⟨M1, e1, d1⟩ := R_narrowsOne hw hs1 (p := i) (by omega) hd.1 (by omega)
    rw [f_X11_narrows_L122, R_n hs1 hw, b_s, if_neg (nI_ge (by omega) (by omega)), e1, b_s, nI_1]
    exact ih (i + 1) m M1 (by omega) (by omega) (ND_app hd d1)
theorem R_spoiled_L4 {M : MM} {y z : Nat → Int} (hw : WF c n) (hs : Sw c (M 32) 0) (h : ∀ m, m < 2 * n → (M 41 (rm m)).toInt = y m ∧ (M 42 (rm m)).toInt = -(z m)) : ∀ (j i m : Nat) (b : Int32), i + j = n → j < m → (b = 0 ∨ b = 1) → f_X11_isSpoiled_L4 m M b (nI i) = some (@ite _ (b = 0 ∧ ∀ k, 2 * i ≤ k → k < 2 * n → y k ≤ -(z k)) (Classical.propDecidable _) 0 1) := by
  have h16 := hw.1
  intro j
  induction j with
  | zero =>
    intro i m b hi hm hb
    obtain ⟨m, rfl⟩ : ∃ m', m = m' + 1 := ⟨m - 1, by omega⟩
    obtain rfl : i = n := by omega
    rw [f_X11_isSpoiled_L4, R_n hs hw, b_s, if_pos (nI_le (Nat.le_refl _) (by omega))]
    rcases hb with rfl | rfl
    · rw [if_pos ⟨rfl, fun k a b => by omega⟩]
    · rw [if_neg (fun x => absurd x.1 (by decide))]
  | succ j ih =>
    intro i m b hi hm hb
    obtain ⟨m, rfl⟩ : ∃ m', m = m' + 1 := ⟨m - 1, by omega⟩
    rw [f_X11_isSpoiled_L4, R_n hs hw, b_s, if_neg (nI_ge (by omega) (by omega))]
    rcases hb with rfl | rfl
    · rw [if_pos rfl, ld_ok (by omega), b_s, ld_ok (by omega), b_s, show (16 : Int32) + nI i = nI (16 + i) from nI_add 16 i]
      have v0 := h (2 * i) (by omega)
      have v1 := h (2 * i + 1) (by omega)
      rw [rm_0] at v0
      rw [rm_1] at v1
      have key : (if M 42 i < M 41 i then some (1 : Int32) else (z_ld M 41 32 (nI (16 + i))).bind fun (v41 : Int32) => (z_ld M 42 32 (nI (16 + i))).bind fun (v50 : Int32) => if v41 ≤ v50 then some (0 : Int32) else some (1 : Int32)) = some (if y (2 * i) ≤ -(z (2 * i)) ∧ y (2 * i + 1) ≤ -(z (2 * i + 1)) then 0 else 1) := by
        by_cases q : M 42 i < M 41 i
        · rw [if_pos q]
          rw [ti_lt] at q
          rw [if_neg (fun x => by omega)]
        · rw [if_neg q, ld_ok (by omega), b_s, ld_ok (by omega), b_s]
          rw [ti_lt] at q
          by_cases w : M 41 (16 + i) ≤ M 42 (16 + i)
          · rw [if_pos w]
            rw [ti_le] at w
            rw [if_pos (by omega)]
          · rw [if_neg w]
            rw [ti_le] at w
            rw [if_neg (fun x => by omega)]
      rw [key, b_s, nI_1]
      by_cases q : y (2 * i) ≤ -(z (2 * i)) ∧ y (2 * i + 1) ≤ -(z (2 * i + 1))
      · rw [if_pos q, ih (i + 1) m 0 (by omega) (by omega) (Or.inl rfl)]
        congr 1
        apply ite_iff
        refine and_congr_right (fun _ => ⟨fun a k k1 k2 => ?_, fun a k k1 k2 => a k (by omega) k2⟩)
        rcases Nat.lt_or_ge k (2 * (i + 1)) with w | w
        · have : k = 2 * i ∨ k = 2 * i + 1 := by omega
          rcases this with rfl | rfl
          · exact q.1
          · exact q.2
        · exact a k w k2
      · rw [if_neg q, ih (i + 1) m 1 (by omega) (by omega) (Or.inr rfl), if_neg (fun x => absurd x.1 (by decide)), if_neg (fun x => q ⟨x.2 _ (by omega) (by omega), x.2 _ (by omega) (by omega)⟩)]
    · rw [if_neg (by decide), b_s, nI_1, ih (i + 1) m 1 (by omega) (by omega) (Or.inr rfl), if_neg (fun x => absurd x.1 (by decide)), if_neg (fun x => absurd x.1 (by decide))]
theorem R_isSpoiled {M : MM} {y z : Nat → Int} (hw : WF c n) (hs : Sw c (M 32) 0) (h : ∀ m, m < 2 * n → (M 41 (rm m)).toInt = y m ∧ (M 42 (rm m)).toInt = -(z m)) : f_X11_isSpoiled M = some (@ite _ (∀ k, k < 2 * n → y k ≤ -(z k)) (Classical.propDecidable _) 0 1) := by
  have h16 := hw.1
  unfold f_X11_isSpoiled
  rw [show f_X11_isSpoiled_L4 FU M (0 : Int32) (0 : Int32) = _ from R_spoiled_L4 hw hs h n 0 FU 0 (by omega) (by unfold FU; omega) (Or.inl rfl), b_s]
  by_cases q : ∀ k, k < 2 * n → y k ≤ -(z k)
  · rw [if_pos q, if_pos ⟨rfl, fun k _ => q k⟩]; rfl
  · rw [if_neg q, if_neg (fun x => q (fun k hk => x.2 k (by omega) hk))]; rfl
theorem R_narrows_L2 (hw : WF c n) : ∀ (j i m : Nat) (M : MM), i + j = n → j < m → Sw c (M 32) 0 → (∀ k, k < 2 * i → (M 41 (rm k)).toInt = ylo c k ∧ (M 42 (rm k)).toInt = yhi c k) → ∃ M1, f_X11_narrows_L2 m M (nI i) = some M1 ∧ (∀ q, q ≠ 41 → q ≠ 42 → M1 q = M q) ∧ ∀ k, k < 2 * n → (M1 41 (rm k)).toInt = ylo c k ∧ (M1 42 (rm k)).toInt = yhi c k := by
  have h16 := hw.1
  intro j
  induction j with
  | zero =>
    intro i m M hi hm hs hk
    obtain ⟨m, rfl⟩ : ∃ m', m = m' + 1 := ⟨m - 1, by omega⟩
    obtain rfl : i = n := by omega
    rw [f_X11_narrows_L2, R_n hs hw, b_s, if_pos (nI_le (Nat.le_refl _) (by omega))]
    exact ⟨M, rfl, fun _ _ _ => rfl, hk⟩
  | succ j ih =>
    intro i m M hi hm hs hk
    obtain ⟨m, rfl⟩ : ∃ m', m = m' + 1 := ⟨m - 1, by omega⟩
    have hs1 : ∀ (M1 : MM) (q k : Nat) (v : Int32), q ≠ 32 → Sw c (M1 32) 0 → Sw c (mst M1 q k v 32) 0 := fun M1 q k v hq hs => by rw [mst_n _ _ _ (fun x => hq x.symm)]; exact hs
    have sA := hs1 _ 41 i (c (13 + 8 * i + 4)) (by decide) hs
    have sB := hs1 _ 42 i (c (13 + 8 * i + 5)) (by decide) sA
    have sC := hs1 _ 41 (16 + i) (c (13 + 8 * i + 6)) (by decide) sB
    have sD := hs1 _ 42 (16 + i) (c (13 + 8 * i + 7)) (by decide) sC
    rw [f_X11_narrows_L2, R_n hs hw, b_s, if_neg (nI_ge (by omega) (by omega)), R_b0 hs (by omega), b_s, sto_ok (by omega), b_s, R_b1 sA (by omega), b_s, sto_ok (by omega), b_s, R_d0 sB (by omega), b_s, show (16 : Int32) + nI i = nI (16 + i) from nI_add 16 i, sto_ok (by omega), b_s, R_d1 sC (by omega), b_s, sto_ok (by omega), b_s, nI_1]
    obtain ⟨M1, e1, k1, k2⟩ := ih (i + 1) m _ (by omega) (by omega) sD (fun k hk2 => by
      rcases Nat.lt_or_ge k (2 * i) with w | w
      · have a1 : rm k ≠ i := by unfold rm; omega
        have a2 : rm k ≠ 16 + i := by unfold rm; omega
        rw [mst_n _ _ _ (show 41 ≠ 42 by decide), mst_sn _ _ _ a2, mst_n _ _ _ (show 41 ≠ 42 by decide), mst_sn _ _ _ a1, mst_sn _ _ _ a2, mst_n _ _ _ (show 42 ≠ 41 by decide), mst_sn _ _ _ a1, mst_n _ _ _ (show 42 ≠ 41 by decide)]
        exact hk k w
      · have : k = 2 * i ∨ k = 2 * i + 1 := by omega
        rcases this with rfl | rfl
        · rw [rm_0, ylo_0, yhi_0, mst_n _ _ _ (show 41 ≠ 42 by decide), mst_sn _ _ _ (by omega), mst_n _ _ _ (show 41 ≠ 42 by decide), mst_ss, mst_sn _ _ _ (by omega), mst_n _ _ _ (show 42 ≠ 41 by decide), mst_ss]
          exact ⟨rfl, rfl⟩
        · rw [rm_1, ylo_1, yhi_1, mst_n _ _ _ (show 41 ≠ 42 by decide), mst_ss, mst_ss]
          exact ⟨rfl, rfl⟩)
    refine ⟨M1, e1, fun q a b => ?_, k2⟩
    rw [k1 q a b, mst_n _ _ _ b, mst_n _ _ _ a, mst_n _ _ _ b, mst_n _ _ _ a]
/-- what narrowing keeps -/
def NV (c : Nat → Int32) (n : Nat) (M : MM) (y z : Nat → Int) : Prop := (∀ m, m < 2 * n → (M 41 (rm m)).toInt = y m ∧ (M 42 (rm m)).toInt = -(z m)) ∧ (∀ x, Feas c n x → ∀ m, m < 2 * n → y m ≤ x m ∧ z m ≤ -(x m)) ∧ ∀ m, m < 2 * n → ylo c m ≤ y m ∧ -(yhi c m) ≤ z m
theorem R_narrows_L101 (hw : WF c n) : ∀ (j m : Nat) (M : MM) (y z : Nat → Int), j < m → Sw c (M 32) 0 → NV c n M y z → (M 31 14 = 1 ∨ (M 31 14 = 0 ∧ clo (gl c n) y ∧ clo (Rv (gl c n)) z)) → sm (fun m => -(y m) - z m) (2 * n) < j → ∃ (M1 : MM) (y1 z1 : Nat → Int), f_X11_narrows_L101 m M = some M1 ∧ FrN M M1 ∧ NV c n M1 y1 z1 ∧ ((¬ ∀ m, m < 2 * n → y1 m ≤ -(z1 m)) ∨ (clo (gl c n) y1 ∧ clo (Rv (gl c n)) z1)) := by
  have h16 := hw.1
  have hin : inN (2 * n) (gl c n) := fun e he => by
    have := (gl_ok hw n (Nat.le_refl n)).2 e he
    exact ⟨this.1, this.2.1⟩
  have hlen := (gl_ok hw n (Nat.le_refl n)).1
  intro j
  induction j with
  | zero =>
    intro m M y z hm hs hv hf hsm
    obtain ⟨m, rfl⟩ : ∃ m', m = m' + 1 := ⟨m - 1, by omega⟩
    have hsp : ¬ ∀ m, m < 2 * n → y m ≤ -(z m) := fun x => by
      have := sm_0 (f := fun m => -(y m) - z m) (n := 2 * n) (fun m hm => by have := x m hm; show 0 ≤ -(y m) - z m; omega)
      omega
    rw [f_X11_narrows_L101]
    by_cases q : M 31 14 = 0
    · rw [if_pos q]; exact ⟨M, y, z, rfl, FrN_r M, hv, Or.inl hsp⟩
    · rw [if_neg q, R_isSpoiled hw hs hv.1, b_s, if_neg hsp, if_neg (by decide)]
      exact ⟨M, y, z, rfl, FrN_r M, hv, Or.inl hsp⟩
  | succ j ih =>
    intro m M y z hm hs hv hf hsm
    obtain ⟨m, rfl⟩ : ∃ m', m = m' + 1 := ⟨m - 1, by omega⟩
    rw [f_X11_narrows_L101]
    by_cases q : M 31 14 = 0
    · rw [if_pos q]
      refine ⟨M, y, z, rfl, FrN_r M, hv, Or.inr ?_⟩
      rcases hf with h | h
      · rw [h] at q; exact absurd q (by decide)
      · exact h.2
    · rw [if_neg q, R_isSpoiled hw hs hv.1, b_s]
      by_cases hsp : ∀ m, m < 2 * n → y m ≤ -(z m)
      · rw [if_pos hsp, if_pos rfl, stb_ok _ _ _ (Or.inl rfl), b_s]
        have ns : NS (2 * n) 999 (mst M 31 14 0) y z := by
          refine ⟨fun m hm => ?_, fun m hm => ?_⟩
          · rw [mst_n _ _ _ (show 41 ≠ 31 by decide), mst_n _ _ _ (show 42 ≠ 31 by decide)]
            exact hv.1 m hm
          · have a := hv.2.2 m hm
            have b := ylo_b hw hm
            have d := yhi_b hw hm
            have f := hsp m hm
            omega
        have hs1 : Sw c (mst M 31 14 0 32) 0 := by rw [mst_n _ _ _ (by decide)]; exact hs
        obtain ⟨M1, e1, d1⟩ := R_narrows_L122 hw hs1 (by omega) n 0 FU _ (by omega) (by unfold FU; omega) (ND_r ns)
        rw [show f_X11_narrows_L122 FU (mst M 31 14 0) (0 : Int32) = some M1 from e1, b_s]
        have hs2 : Sw c (M1 32) 0 := by rw [d1.2.1.1 32 (by decide) (by decide) (by decide)]; exact hs1
        have hv1 : NV c n M1 (rnd (gl c n) y) (rnd (Rv (gl c n)) z) := by
          refine ⟨d1.1.1, fun x hx m hm => ⟨rnd_le hin hx.1 (fun i hi => (hv.2.1 x hx i hi).1) m hm, rnd_le (x := fun m => -(x m)) (inN_rv hin) (clo_rv hx.1) (fun i hi => (hv.2.1 x hx i hi).2) m hm⟩, fun m hm => ?_⟩
          have a := hv.2.2 m hm
          have b := rnd_ge (gl c n) y m
          have d := rnd_ge (Rv (gl c n)) z m
          omega
        have fr1 : FrN M (mst M 31 14 0) := ⟨fun q a _ _ => mst_n _ _ _ a, fun i hi => mst_sn _ _ _ hi⟩
        have fl := d1.2.2
        rw [mst_ss] at fl
        have fin : ∃ (M2 : MM) (y1 z1 : Nat → Int), f_X11_narrows_L101 m M1 = some M2 ∧ FrN M1 M2 ∧ NV c n M2 y1 z1 ∧ ((¬ ∀ m, m < 2 * n → y1 m ≤ -(z1 m)) ∨ (clo (gl c n) y1 ∧ clo (Rv (gl c n)) z1)) := by
          rcases fl with ⟨f1, f2⟩ | ⟨f1, f2, f3⟩
          · refine ih m M1 _ _ (by omega) hs2 hv1 (Or.inl f1) ?_
            have : sm (fun m => -(rnd (gl c n) y m) - rnd (Rv (gl c n)) z m) (2 * n) < sm (fun m => -(y m) - z m) (2 * n) := by
              refine sm_lt (fun m hm => ?_) ?_
              · have b := rnd_ge (gl c n) y m
                have d := rnd_ge (Rv (gl c n)) z m
                show -(rnd (gl c n) y m) - rnd (Rv (gl c n)) z m ≤ -(y m) - z m
                omega
              · rcases f2 with f | f | f
                · exact absurd f (by decide)
                · obtain ⟨m, a, b⟩ := fire_gt hin f
                  have d := rnd_ge (Rv (gl c n)) z m
                  refine ⟨m, a, ?_⟩
                  show -(rnd (gl c n) y m) - rnd (Rv (gl c n)) z m < -(y m) - z m
                  omega
                · obtain ⟨m, a, b⟩ := fire_gt (inN_rv hin) f
                  have d := rnd_ge (gl c n) y m
                  refine ⟨m, a, ?_⟩
                  show -(rnd (gl c n) y m) - rnd (Rv (gl c n)) z m < -(y m) - z m
                  omega
            omega
          · obtain ⟨a1, a2⟩ := nofire f2
            obtain ⟨b1, b2⟩ := nofire f3
            rw [a1, b1] at hv1
            obtain ⟨m, rfl⟩ : ∃ m', m = m' + 1 := ⟨m - 1, by omega⟩
            rw [f_X11_narrows_L101, if_pos f1]
            exact ⟨M1, y, z, rfl, FrN_r M1, hv1, Or.inr ⟨a2, b2⟩⟩
        obtain ⟨M2, y1, z1, e2, fr2, r2⟩ := fin
        exact ⟨M2, y1, z1, e2, FrN_t fr1 (FrN_t d1.2.1 fr2), r2⟩
      · rw [if_neg hsp, if_neg (by decide)]
        exact ⟨M, y, z, rfl, FrN_r M, hv, Or.inl hsp⟩
/-- what the law holds of the years after narrowing -/
def YR (c : Nat → Int32) (n : Nat) (M : MM) : Prop := (∃ y, LstF c n y ∧ ∀ m, m < 2 * n → (M 41 (rm m)).toInt = y m) ∧ ∃ y, GrtF c n y ∧ ∀ m, m < 2 * n → (M 42 (rm m)).toInt = y m
theorem R_narrows {M : MM} (hw : WF c n) (hs : Sw c (M 32) 0) : ∃ M1, f_X11_narrows M = some (@ite _ (∃ x, Feas c n x) (Classical.propDecidable _) 1 0, M1) ∧ FrN M M1 ∧ ((∃ x, Feas c n x) → YR c n M1) := by
  have h16 := hw.1
  unfold f_X11_narrows
  obtain ⟨M1, e1, k1, k2⟩ := R_narrows_L2 hw n 0 FU M (by omega) (by unfold FU; omega) hs (fun k hk => by omega)
  rw [show f_X11_narrows_L2 FU M (0 : Int32) = some M1 from e1, b_s, stb_ok _ _ _ (Or.inr rfl), b_s]
  have hs1 : Sw c (mst M1 31 14 1 32) 0 := by rw [mst_n _ _ _ (by decide), k1 32 (by decide) (by decide)]; exact hs
  have hv : NV c n (mst M1 31 14 1) (ylo c) (fun m => -(yhi c m)) := by
    refine ⟨fun m hm => ?_, fun x hx m hm => ?_, fun m hm => ?_⟩
    · rw [mst_n _ _ _ (show 41 ≠ 31 by decide), mst_n _ _ _ (show 42 ≠ 31 by decide)]
      have := k2 m hm
      refine ⟨this.1, this.2.trans ?_⟩
      show yhi c m = -(-(yhi c m))
      omega
    · have := hx.2 m hm
      show ylo c m ≤ x m ∧ -(yhi c m) ≤ -(x m)
      omega
    · show ylo c m ≤ ylo c m ∧ -(yhi c m) ≤ -(yhi c m)
      omega
  have hsum : sm (fun m => -(ylo c m) - -(yhi c m)) (2 * n) < ((40000 : Nat) : Int) := by
    have : sm (fun m => -(ylo c m) - -(yhi c m)) (2 * n) ≤ sm (fun _ => 999) (2 * n) := sm_le (fun m hm => by
      have b := ylo_b hw hm
      have d := yhi_b hw hm
      show -(ylo c m) - -(yhi c m) ≤ 999
      omega)
    have h2 := sm_b (f := fun _ => 999) (B := 999) (fun _ => Int.le_refl _) (2 * n)
    omega
  obtain ⟨M2, y, z, e2, fr, hv2, hend⟩ := R_narrows_L101 hw 40000 FU _ (ylo c) (fun m => -(yhi c m)) (by unfold FU; omega) hs1 hv (Or.inl (mst_ss _ _ _ _)) hsum
  have hs2 : Sw c (M2 32) 0 := by rw [fr.1 32 (by decide) (by decide) (by decide)]; exact hs1
  rw [e2, b_s, R_isSpoiled hw hs2 hv2.1, b_s]
  have frr : FrN M M2 := by
    refine FrN_t ⟨fun q a b d => ?_, fun i hi => ?_⟩ fr
    · rw [mst_n _ _ _ a, k1 q b d]
    · rw [mst_sn _ _ _ hi, k1 31 (by decide) (by decide)]
  by_cases q : ∀ m, m < 2 * n → y m ≤ -(z m)
  · obtain ⟨c1, c2⟩ := hend.resolve_left (fun x => x q)
    have f1 : Feas c n y := ⟨c1, fun m hm => by
      have a := hv2.2.2 m hm
      have b := q m hm
      omega⟩
    have f2 : Feas c n (fun m => -(z m)) := ⟨clo_rv' c2, fun m hm => by
      have a := hv2.2.2 m hm
      have b := q m hm
      show ylo c m ≤ -(z m) ∧ -(z m) ≤ yhi c m
      omega⟩
    rw [if_pos q, if_pos rfl, b_s, rzM1, if_pos ⟨y, f1⟩]
    refine ⟨M2, rfl, frr, fun _ => ⟨⟨y, ⟨f1, fun x hx m hm => (hv2.2.1 x hx m hm).1⟩, fun m hm => (hv2.1 m hm).1⟩, ⟨_, ⟨f2, fun x hx m hm => ?_⟩, fun m hm => (hv2.1 m hm).2⟩⟩⟩
    have := (hv2.2.1 x hx m hm).2
    show x m ≤ -(z m)
    omega
  · have hno : ¬ ∃ x, Feas c n x := fun ⟨x, hx⟩ => q (fun m hm => by
      have := hv2.2.1 x hx m hm
      omega)
    rw [if_neg q, if_neg (by decide), b_s, rzM0, if_neg hno]
    exact ⟨M2, rfl, frr, fun x => absurd x hno⟩
end Narrows
