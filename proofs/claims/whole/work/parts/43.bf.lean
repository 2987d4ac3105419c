/-! years that must be so much later than others: raised until nothing moves -/
abbrev Ed : Type := Nat × Nat × Int
def rl (y : Nat → Int) (e : Ed) : Nat → Int := fun m => if m = e.2.1 ∧ y e.2.1 < y e.1 + e.2.2 then y e.1 + e.2.2 else y m
def rnd (G : List Ed) (y : Nat → Int) : Nat → Int := G.foldl rl y
def clo (G : List Ed) (y : Nat → Int) : Prop := ∀ e ∈ G, y e.1 + e.2.2 ≤ y e.2.1
def fire : (Nat → Int) → List Ed → Prop
  | _, [] => False
  | y, e :: t => y e.2.1 < y e.1 + e.2.2 ∨ fire (rl y e) t
theorem rl_no {y : Nat → Int} {e : Ed} (h : ¬ y e.2.1 < y e.1 + e.2.2) : rl y e = y := by
  funext m
  unfold rl
  rw [if_neg (fun x => h x.2)]
theorem rl_ge (y : Nat → Int) (e : Ed) (m : Nat) : y m ≤ rl y e m := by
  unfold rl
  by_cases h : m = e.2.1 ∧ y e.2.1 < y e.1 + e.2.2
  · rw [if_pos h, h.1]; omega
  · rw [if_neg h]; omega
theorem rl_at (y : Nat → Int) (e : Ed) : y e.1 + e.2.2 ≤ rl y e e.2.1 := by
  unfold rl
  by_cases h : y e.2.1 < y e.1 + e.2.2
  · rw [if_pos ⟨rfl, h⟩]; omega
  · rw [if_neg (fun x => h x.2)]; omega
theorem rnd_ge : ∀ (G : List Ed) (y : Nat → Int) (m : Nat), y m ≤ rnd G y m
  | [], y, m => Int.le_refl _
  | e :: t, y, m => Int.le_trans (rl_ge y e m) (rnd_ge t (rl y e) m)
theorem rnd_at : ∀ (G : List Ed) (y : Nat → Int) (e : Ed), e ∈ G → y e.1 + e.2.2 ≤ rnd G y e.2.1
  | d :: t, y, e, h => by
    show _ ≤ rnd t (rl y d) e.2.1
    rcases List.mem_cons.mp h with rfl | h
    · exact Int.le_trans (rl_at y e) (rnd_ge t _ _)
    · have := rnd_at t (rl y d) e h
      have := rl_ge y d e.1
      omega
theorem rl_le {N : Nat} {x y : Nat → Int} {e : Ed} (h : ∀ m, m < N → y m ≤ x m) (h1 : e.1 < N) (hc : x e.1 + e.2.2 ≤ x e.2.1) : ∀ m, m < N → rl y e m ≤ x m := by
  intro m hm
  unfold rl
  by_cases q : m = e.2.1 ∧ y e.2.1 < y e.1 + e.2.2
  · rw [if_pos q, q.1]
    have := h e.1 h1
    omega
  · rw [if_neg q]; exact h m hm
def inN (N : Nat) (G : List Ed) : Prop := ∀ e ∈ G, e.1 < N ∧ e.2.1 < N
theorem rnd_le {N : Nat} {x : Nat → Int} : ∀ {G : List Ed} {y : Nat → Int}, inN N G → clo G x → (∀ m, m < N → y m ≤ x m) → ∀ m, m < N → rnd G y m ≤ x m
  | [], y, _, _, h => h
  | e :: t, y, hi, hc, h => rnd_le (G := t) (fun d hd => hi d (List.mem_cons_of_mem _ hd)) (fun d hd => hc d (List.mem_cons_of_mem _ hd)) (rl_le h (hi e List.mem_cons_self).1 (hc e List.mem_cons_self))
theorem nofire : ∀ {G : List Ed} {y : Nat → Int}, ¬ fire y G → rnd G y = y ∧ clo G y
  | [], y, _ => ⟨rfl, fun e h => by cases h⟩
  | e :: t, y, h => by
    have h1 : ¬ y e.2.1 < y e.1 + e.2.2 := fun q => h (Or.inl q)
    have h2 : ¬ fire (rl y e) t := fun q => h (Or.inr q)
    rw [rl_no h1] at h2
    obtain ⟨a, b⟩ := nofire h2
    refine ⟨?_, fun d hd => ?_⟩
    · show rnd t (rl y e) = y
      rw [rl_no h1, a]
    · rcases List.mem_cons.mp hd with rfl | q
      · omega
      · exact b d q
theorem clo_nofire : ∀ {G : List Ed} {y : Nat → Int}, clo G y → ¬ fire y G
  | [], y, _ => fun h => h
  | e :: t, y, hc => by
    have h1 : ¬ y e.2.1 < y e.1 + e.2.2 := by have := hc e List.mem_cons_self; omega
    rintro (h | h)
    · exact h1 h
    · rw [rl_no h1] at h
      exact clo_nofire (fun d hd => hc d (List.mem_cons_of_mem _ hd)) h
def itr (G : List Ed) : Nat → (Nat → Int) → Nat → Int
  | 0, y => y
  | k + 1, y => rnd G (itr G k y)
/-- how many of the first N are so -/
noncomputable def cn (P : Nat → Prop) : Nat → Nat
  | 0 => 0
  | n + 1 => cn P n + @ite _ (P n) (Classical.propDecidable _) 1 0
theorem cn_le (P : Nat → Prop) : ∀ n, cn P n ≤ n
  | 0 => Nat.le_refl 0
  | n + 1 => by have := cn_le P n; show cn P n + _ ≤ n + 1; split <;> omega
theorem cn_all {P : Nat → Prop} : ∀ {n : Nat}, n ≤ cn P n → ∀ m, m < n → P m
  | n + 1, h, m, hm => by
    have h1 := cn_le P n
    have h2 : cn P (n + 1) = cn P n + @ite _ (P n) (Classical.propDecidable _) 1 0 := rfl
    by_cases q : P n
    · rw [if_pos q] at h2
      rcases Nat.lt_or_ge m n with a | a
      · exact cn_all (n := n) (by omega) m a
      · obtain rfl : m = n := by omega
        exact q
    · rw [if_neg q] at h2
      omega
theorem cn_mono {P Q : Nat → Prop} : ∀ {n : Nat}, (∀ m, m < n → P m → Q m) → cn P n ≤ cn Q n
  | 0, _ => Nat.le_refl 0
  | n + 1, h => by
    have := cn_mono (n := n) (fun m hm => h m (by omega))
    show cn P n + _ ≤ cn Q n + _
    by_cases q : P n
    · rw [if_pos q, if_pos (h n (by omega) q)]; omega
    · rw [if_neg q]; omega
theorem cn_lt {P Q : Nat → Prop} : ∀ {n : Nat}, (∀ m, m < n → P m → Q m) → (∃ m, m < n ∧ Q m ∧ ¬ P m) → cn P n < cn Q n
  | 0, _, ⟨m, h, _⟩ => absurd h (Nat.not_lt_zero m)
  | n + 1, h, ⟨m, h1, h2, h3⟩ => by
    show cn P n + _ < cn Q n + _
    rcases Nat.lt_or_ge m n with a | a
    · have := cn_lt (n := n) (fun k hk => h k (by omega)) ⟨m, a, h2, h3⟩
      by_cases q : P n
      · rw [if_pos q, if_pos (h n (by omega) q)]; omega
      · rw [if_neg q]; omega
    · obtain rfl : m = n := by omega
      have := cn_mono (n := m) (fun k hk => h k (by omega))
      rw [if_neg h3, if_pos h2]; omega
theorem cn_pos {P : Nat → Prop} {n m : Nat} (hm : m < n) (h : P m) : 1 ≤ cn P n := by
  have := cn_lt (P := fun _ => False) (Q := P) (n := n) (fun _ _ x => x.elim) ⟨m, hm, h, fun x => x⟩
  omega
/-- x is the least that is closed and not below lo -/
def lstC (N : Nat) (G : List Ed) (lo x : Nat → Int) : Prop := clo G x ∧ (∀ m, m < N → lo m ≤ x m) ∧ ∀ z, clo G z → (∀ m, m < N → lo m ≤ z m) → ∀ m, m < N → x m ≤ z m
theorem lstC_ex {N : Nat} {G : List Ed} {lo : Nat → Int} (hi : inN N G) (h : ∃ z, clo G z ∧ ∀ m, m < N → lo m ≤ z m) : ∃ x, lstC N G lo x := by
  have ex : ∀ m, ∃ k : Nat, m < N → (∃ z, clo G z ∧ (∀ i, i < N → lo i ≤ z i) ∧ z m = lo m + k) ∧ ∀ j : Nat, j < k → ¬ ∃ z, clo G z ∧ (∀ i, i < N → lo i ≤ z i) ∧ z m = lo m + j := by
    intro m
    by_cases hm : m < N
    · obtain ⟨z, h1, h2⟩ := h
      obtain ⟨k, a, b⟩ := pk_least (fun k : Nat => ∃ z, clo G z ∧ (∀ i, i < N → lo i ≤ z i) ∧ z m = lo m + k) ⟨(z m - lo m).toNat, z, h1, h2, by have := h2 m hm; omega⟩
      exact ⟨k, fun _ => ⟨a, b⟩⟩
    · exact ⟨0, fun q => absurd q hm⟩
  have ch := fun m => Classical.choose_spec (ex m)
  have low : ∀ z, clo G z → (∀ m, m < N → lo m ≤ z m) → ∀ m, m < N → lo m + (Classical.choose (ex m) : Nat) ≤ z m := by
    intro z h1 h2 m hm
    rcases Int.lt_or_le (z m) (lo m + (Classical.choose (ex m) : Nat)) with q | q
    · exfalso
      have := h2 m hm
      exact (ch m hm).2 ((z m - lo m).toNat) (by omega) ⟨z, h1, h2, by omega⟩
    · exact q
  refine ⟨fun m => lo m + (Classical.choose (ex m) : Nat), fun e he => ?_, fun m _ => by show lo m ≤ lo m + _; omega, low⟩
  obtain ⟨a, b⟩ := hi e he
  obtain ⟨⟨z, h1, h2, h3⟩, -⟩ := ch e.2.1 b
  have := low z h1 h2 e.1 a
  have := h1 e he
  show lo e.1 + _ + e.2.2 ≤ lo e.2.1 + _
  omega
/-- where it isn't reached yet, one that is reached pulls another one up -/
theorem tight {N : Nat} {G : List Ed} {lo x y : Nat → Int} (hx : lstC N G lo x) (hi : inN N G) (h1 : ∀ m, m < N → lo m ≤ y m) (h2 : ∀ m, m < N → y m ≤ x m) (hne : ∃ m, m < N ∧ y m ≠ x m) : ∃ e ∈ G, y e.1 = x e.1 ∧ y e.2.1 ≠ x e.2.1 ∧ x e.1 + e.2.2 = x e.2.1 := by
  apply Classical.byContradiction
  intro hno
  obtain ⟨m0, hm0, hm1⟩ := hne
  have key := hx.2.2 (fun m => @ite _ (m < N ∧ y m ≠ x m) (Classical.propDecidable _) (x m - 1) (x m)) (fun e he => ?_) (fun m hm => ?_) m0 hm0
  · rw [if_pos ⟨hm0, hm1⟩] at key
    omega
  · obtain ⟨a, b⟩ := hi e he
    have hc := hx.1 e he
    dsimp only
    by_cases q1 : y e.1 = x e.1
    · rw [if_neg (fun z => z.2 q1)]
      by_cases q2 : y e.2.1 = x e.2.1
      · rw [if_neg (fun z => z.2 q2)]; exact hc
      · rw [if_pos ⟨b, q2⟩]
        have : x e.1 + e.2.2 ≠ x e.2.1 := fun q3 => hno ⟨e, he, q1, q2, q3⟩
        omega
    · rw [if_pos ⟨a, q1⟩]
      by_cases q2 : y e.2.1 = x e.2.1
      · rw [if_neg (fun z => z.2 q2)]; omega
      · rw [if_pos ⟨b, q2⟩]; omega
  · have a := h1 m hm
    have b := h2 m hm
    by_cases q : y m = x m
    · rw [if_neg (fun z => z.2 q)]; omega
    · rw [if_pos ⟨hm, q⟩]; omega
theorem itr_ge (G : List Ed) (y : Nat → Int) (m : Nat) : ∀ k, y m ≤ itr G k y m
  | 0 => Int.le_refl _
  | k + 1 => Int.le_trans (itr_ge G y m k) (rnd_ge G _ m)
theorem itr_le {N : Nat} {G : List Ed} {x y : Nat → Int} (hi : inN N G) (hc : clo G x) (h : ∀ m, m < N → y m ≤ x m) : ∀ k, ∀ m, m < N → itr G k y m ≤ x m
  | 0 => h
  | k + 1 => rnd_le hi hc (itr_le hi hc h k)
theorem bf_cnt {N : Nat} {G : List Ed} {lo x : Nat → Int} (hx : lstC N G lo x) (hi : inN N G) : ∀ k, (∀ m, m < N → itr G k lo m = x m) ∨ k + 1 ≤ cn (fun m => itr G k lo m = x m) N := by
  intro k
  induction k with
  | zero =>
    by_cases h : ∀ m, m < N → itr G 0 lo m = x m
    · exact Or.inl h
    · right
      obtain ⟨e, he, q1, q2, -⟩ := tight hx hi (y := lo) (fun m _ => Int.le_refl _) hx.2.1 (by
        apply Classical.byContradiction
        intro q
        exact h (fun m hm => Classical.byContradiction fun z => q ⟨m, hm, z⟩))
      exact cn_pos (hi e he).1 q1
  | succ k ih =>
    have hle := itr_le hi hx.1 hx.2.1
    rcases ih with h | h
    · left
      intro m hm
      have a := rnd_ge G (itr G k lo) m
      have b := hle (k + 1) m hm
      have d := h m hm
      show rnd G (itr G k lo) m = x m
      have b2 : rnd G (itr G k lo) m ≤ x m := b
      omega
    · by_cases g : ∀ m, m < N → itr G k lo m = x m
      · left
        intro m hm
        have a := rnd_ge G (itr G k lo) m
        have b2 : rnd G (itr G k lo) m ≤ x m := hle (k + 1) m hm
        have d := g m hm
        show rnd G (itr G k lo) m = x m
        omega
      · right
        obtain ⟨e, he, q1, q2, q3⟩ := tight hx hi (y := itr G k lo) (fun m _ => itr_ge G lo m k) (hle k) (by
          apply Classical.byContradiction
          intro q
          exact g (fun m hm => Classical.byContradiction fun z => q ⟨m, hm, z⟩))
        have := cn_lt (P := fun m => itr G k lo m = x m) (Q := fun m => itr G (k + 1) lo m = x m) (n := N) (fun m hm a => by
          have a1 := rnd_ge G (itr G k lo) m
          have b2 : rnd G (itr G k lo) m ≤ x m := hle (k + 1) m hm
          show rnd G (itr G k lo) m = x m
          omega) ⟨e.2.1, (hi e he).2, by
            have a1 := rnd_at G (itr G k lo) e he
            have b2 : rnd G (itr G k lo) e.2.1 ≤ x e.2.1 := hle (k + 1) e.2.1 (hi e he).2
            show rnd G (itr G k lo) e.2.1 = x e.2.1
            omega, q2⟩
        omega
theorem bf_done {N : Nat} {G : List Ed} {lo x : Nat → Int} (hx : lstC N G lo x) (hi : inN N G) {k : Nat} (hk : N ≤ k + 1) : ∀ m, m < N → itr G k lo m = x m := by
  rcases bf_cnt hx hi k with h | h
  · exact h
  · exact cn_all (Nat.le_trans hk h)
theorem clo_ext {N : Nat} {G : List Ed} {x y : Nat → Int} (hi : inN N G) (h : ∀ m, m < N → y m = x m) (hc : clo G x) : clo G y := fun e he => by
  rw [h e.1 (hi e he).1, h e.2.1 (hi e he).2]
  exact hc e he
/-- the N-th round, at the latest, moves nothing -/
theorem bf_stop {N : Nat} {G : List Ed} {lo x : Nat → Int} (hx : lstC N G lo x) (hi : inN N G) {k : Nat} (hk : N ≤ k + 1) : ¬ fire (itr G k lo) G := clo_nofire (clo_ext hi (bf_done hx hi hk) hx.1)
