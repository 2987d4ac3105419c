/-! rows of quarters -/
abbrev QL : Type := List (Int32 × Int32)
def qadd (l : QL) (e : Int32 × Int32) : QL := if e.1 ∈ l.map Prod.fst then l else l ++ [e]
def qall (l src : QL) : QL := src.foldl qadd l
def QOK (l : QL) : Prop := (∀ (k : Nat) (e : Int32 × Int32), l[k]? = some e → ∃ a, a < 10 ∧ e.1 = nI a) ∧ ∀ (i j : Nat) (e d : Int32 × Int32), l[i]? = some e → l[j]? = some d → e.1 = d.1 → i = j
theorem pigeon : ∀ (m : Nat) (f : Nat → Nat), (∀ i, i ≤ m → f i < m) → (∀ i j, i ≤ m → j ≤ m → f i = f j → i = j) → False
  | 0, f, h, _ => absurd (h 0 (Nat.le_refl 0)) (by omega)
  | m + 1, f, h, hi => by
    refine pigeon m (fun i => if f i = m then f (m + 1) else f i) (fun i hm => ?_) (fun i j hm hj e => ?_)
    · by_cases c : f i = m
      · rw [if_pos c]
        have h1 := h (m + 1) (Nat.le_refl _)
        have h2 : f (m + 1) ≠ m := fun q => by
          have := hi i (m + 1) (by omega) (Nat.le_refl _) (c.trans q.symm)
          omega
        omega
      · rw [if_neg c]
        have := h i (by omega)
        omega
    · by_cases c : f i = m
      · by_cases d : f j = m
        · exact hi i j (by omega) (by omega) (c.trans d.symm)
        · rw [if_pos c, if_neg d] at e
          have := hi (m + 1) j (Nat.le_refl _) (by omega) e
          omega
      · by_cases d : f j = m
        · rw [if_neg c, if_pos d] at e
          have := hi i (m + 1) (by omega) (Nat.le_refl _) e
          omega
        · rw [if_neg c, if_neg d] at e
          exact hi i j (by omega) (by omega) e
theorem getq {l : QL} {k : Nat} (h : k < l.length) : ∃ e, l[k]? = some e := ⟨l[k], List.getElem?_eq_getElem h⟩
theorem getq_lt {l : QL} {k : Nat} {e : Int32 × Int32} (h : l[k]? = some e) : k < l.length := by
  rcases Nat.lt_or_ge k l.length with q | q
  · exact q
  · rw [List.getElem?_eq_none q] at h; cases h
theorem QOK_len {l : QL} (h : QOK l) : l.length ≤ 10 := by
  rcases Nat.lt_or_ge 10 l.length with hl | hl
  · exfalso
    refine pigeon 10 (fun i => ((l[i]?).map (fun e => e.1.toNatClampNeg)).getD 0) (fun i hi => ?_) (fun i j hi hj e => ?_)
    · obtain ⟨x, hx⟩ := getq (l := l) (k := i) (by omega)
      obtain ⟨a, ha, e1⟩ := h.1 i x hx
      rw [hx]
      show x.1.toNatClampNeg < 10
      rw [e1, nI_clamp (by omega)]
      exact ha
    · obtain ⟨x, hx⟩ := getq (l := l) (k := i) (by omega)
      obtain ⟨y, hy⟩ := getq (l := l) (k := j) (by omega)
      obtain ⟨a, ha, e1⟩ := h.1 i x hx
      obtain ⟨b, hb, e2⟩ := h.1 j y hy
      rw [hx, hy] at e
      have e3 : x.1.toNatClampNeg = y.1.toNatClampNeg := e
      rw [e1, e2, nI_clamp (by omega), nI_clamp (by omega)] at e3
      exact h.2 i j x y hx hy (by rw [e1, e2, e3])
  · exact hl
theorem mem_fst {l : QL} {a : Int32} : a ∈ l.map Prod.fst ↔ ∃ (k : Nat) (e : Int32 × Int32), l[k]? = some e ∧ e.1 = a := by
  constructor
  · intro h
    obtain ⟨e, he, rfl⟩ := List.mem_map.mp h
    obtain ⟨k, hk⟩ := List.getElem?_of_mem he
    exact ⟨k, e, hk, rfl⟩
  · rintro ⟨k, e, hk, rfl⟩
    exact List.mem_map.mpr ⟨e, List.mem_of_getElem? hk, rfl⟩
theorem get_snoc {l : QL} {x e : Int32 × Int32} {k : Nat} (h : (l ++ [x])[k]? = some e) : l[k]? = some e ∨ (k = l.length ∧ e = x) := by
  rcases Nat.lt_or_ge k l.length with q | q
  · rw [List.getElem?_append_left q] at h; exact Or.inl h
  · rw [List.getElem?_append_right q] at h
    rcases Nat.eq_or_lt_of_le q with c | c
    · subst c
      rw [Nat.sub_self] at h
      exact Or.inr ⟨rfl, (Option.some.inj h).symm⟩
    · have : [x][k - l.length]? = none := List.getElem?_eq_none (by simp; omega)
      rw [this] at h; cases h
theorem QOK_add {l : QL} (h : QOK l) {e : Int32 × Int32} (he : ∃ a, a < 10 ∧ e.1 = nI a) : QOK (qadd l e) := by
  unfold qadd
  by_cases c : e.1 ∈ l.map Prod.fst
  · rw [if_pos c]; exact h
  · rw [if_neg c]
    refine ⟨fun k d hd => ?_, fun i j d1 d2 h1 h2 e3 => ?_⟩
    · rcases get_snoc hd with q | ⟨-, rfl⟩
      · exact h.1 k d q
      · exact he
    · rcases get_snoc h1 with q1 | ⟨rfl, rfl⟩
      · rcases get_snoc h2 with q2 | ⟨rfl, rfl⟩
        · exact h.2 i j d1 d2 q1 q2 e3
        · exact absurd (mem_fst.mpr ⟨i, d1, q1, e3⟩) c
      · rcases get_snoc h2 with q2 | ⟨rfl, rfl⟩
        · exact absurd (mem_fst.mpr ⟨j, d2, q2, e3.symm⟩) c
        · rfl
theorem QOK_nil : QOK [] := ⟨fun k e h => by simp at h, fun i j e d h => by simp at h⟩
theorem QOK_all {src : QL} : ∀ {l : QL}, QOK l → (∀ e ∈ src, ∃ a, a < 10 ∧ e.1 = nI a) → QOK (qall l src) := by
  induction src with
  | nil => intro l h _; exact h
  | cons e t ih =>
    intro l h hs
    exact ih (QOK_add h (hs e List.mem_cons_self)) (fun x hx => hs x (List.mem_cons_of_mem _ hx))
theorem QOK_mem {l : QL} (h : QOK l) : ∀ e ∈ l, ∃ a, a < 10 ∧ e.1 = nI a := by
  intro e he
  obtain ⟨k, hk⟩ := List.getElem?_of_mem he
  exact h.1 k e hk
theorem qadd_ne {l : QL} {e : Int32 × Int32} : qadd l e ≠ [] := by
  unfold qadd
  by_cases c : e.1 ∈ l.map Prod.fst
  · rw [if_pos c]; intro h; rw [h] at c; simp at c
  · rw [if_neg c]; simp
theorem qadd_keep {l : QL} (h : l ≠ []) (e : Int32 × Int32) : qadd l e ≠ [] := qadd_ne
theorem qall_ne {src : QL} : ∀ {l : QL}, l ≠ [] → qall l src ≠ [] := by
  induction src with
  | nil => intro l h; exact h
  | cons e t ih => intro l h; exact ih qadd_ne
theorem qall_app (l a b : QL) : qall l (a ++ b) = qall (qall l a) b := List.foldl_append
theorem qall_nil (l : QL) : qall l [] = l := rfl
theorem qall_cons (l : QL) (e : Int32 × Int32) (t : QL) : qall l (e :: t) = qall (qadd l e) t := rfl
/-- the row of place p: its size, arms, those through whom -/
def RowIs (a b d : Nat) (M : MM) (p : Nat) (l : QL) : Prop := M a p = nI l.length ∧ ∀ (k : Nat) (e : Int32 × Int32), l[k]? = some e → M b (10 * p + k) = e.1 ∧ M d (10 * p + k) = e.2
/-- nothing changes but the row of place p -/
def FrT (a b d : Nat) (M M1 : MM) (p : Nat) : Prop := (∀ q, q ≠ a → q ≠ b → q ≠ d → M1 q = M q) ∧ (∀ i, i ≠ p → M1 a i = M a i) ∧ ∀ i, (i < 10 * p ∨ 10 * p + 10 ≤ i) → M1 b i = M b i ∧ M1 d i = M d i
theorem FrT_rf {a b d : Nat} {M : MM} {p : Nat} : FrT a b d M M p := ⟨fun _ _ _ _ => rfl, fun _ _ => rfl, fun _ _ => ⟨rfl, rfl⟩⟩
theorem FrT_tr {a b d : Nat} {M M1 M2 : MM} {p : Nat} (h : FrT a b d M M1 p) (h2 : FrT a b d M1 M2 p) : FrT a b d M M2 p := ⟨fun q x y z => (h2.1 q x y z).trans (h.1 q x y z), fun i x => (h2.2.1 i x).trans (h.2.1 i x), fun i x => ⟨(h2.2.2 i x).1.trans (h.2.2 i x).1, (h2.2.2 i x).2.trans (h.2.2 i x).2⟩⟩
theorem RowIs_fr {a b d : Nat} {M M1 : MM} {p q : Nat} {l : QL} (h : FrT a b d M M1 p) (hq : q ≠ p) (hl : l.length ≤ 10) (r : RowIs a b d M q l) : RowIs a b d M1 q l := by
  refine ⟨(h.2.1 q hq).trans r.1, fun k e hk => ?_⟩
  have h1 := getq_lt hk
  have h2 := h.2.2 (10 * q + k) (by omega)
  have h3 := r.2 k e hk
  exact ⟨h2.1.trans h3.1, h2.2.trans h3.2⟩
/-- one more at the end of a row -/
def mrow (a b d : Nat) (M : MM) (p n : Nat) (x t : Int32) : MM := mst (mst (mst M b (10 * p + n) x) d (10 * p + n) t) a p (nI (n + 1))
theorem mrow_fr {a b d : Nat} (M : MM) {p n : Nat} (x t : Int32) (hn : n < 10) (h1 : a ≠ b) (h2 : a ≠ d) (h3 : b ≠ d) : FrT a b d M (mrow a b d M p n x t) p := by
  unfold mrow
  refine ⟨fun q x y z => ?_, fun i hi => ?_, fun i hi => ⟨?_, ?_⟩⟩
  · rw [mst_n _ _ _ x, mst_n _ _ _ z, mst_n _ _ _ y]
  · rw [mst_sn _ _ _ hi, mst_n _ _ _ h2, mst_n _ _ _ h1]
  · rw [mst_n _ _ _ (Ne.symm h1), mst_n _ _ _ h3, mst_sn _ _ _ (by omega)]
  · rw [mst_n _ _ _ (Ne.symm h2), mst_sn _ _ _ (by omega), mst_n _ _ _ (Ne.symm h3)]
theorem mrow_is {a b d : Nat} {M : MM} {p : Nat} {l : QL} (x t : Int32) (r : RowIs a b d M p l) (h1 : a ≠ b) (h2 : a ≠ d) (h3 : b ≠ d) : RowIs a b d (mrow a b d M p l.length x t) p (l ++ [(x, t)]) := by
  unfold mrow
  refine ⟨?_, fun k e hk => ?_⟩
  · rw [mst_ss]; simp
  · rw [mst_n _ _ _ (Ne.symm h1), mst_n _ _ _ (Ne.symm h2), mst_n _ _ _ h3]
    rcases get_snoc hk with q | ⟨rfl, rfl⟩
    · have := getq_lt q
      rw [mst_sn _ _ _ (by omega), mst_sn _ _ _ (by omega), mst_n _ _ _ (Ne.symm h3)]
      exact r.2 k e q
    · rw [mst_ss, mst_ss]
      exact ⟨rfl, rfl⟩
theorem ix10 (p k : Nat) : (nI p * (10 : Int32)) + nI k = nI (10 * p + k) := by
  rw [show nI p * (10 : Int32) = nI (p * 10) from pk_mul p 10, nI_add, Nat.mul_comm]
theorem ix10z (p : Nat) : nI p * (10 : Int32) = nI (10 * p) := by
  rw [show nI p * (10 : Int32) = nI (p * 10) from pk_mul p 10, Nat.mul_comm]
theorem ix10r (p k : Nat) : ((10 : Int32) * nI p) + nI k = nI (10 * p + k) := by
  rw [show (10 : Int32) * nI p = nI (10 * p) from pk_mul 10 p, nI_add]
section Take
variable {M : MM} {p : Nat} {l : QL}
theorem X1_take_L43 (hp : p < 17) (r : RowIs 11 12 13 M p l) (hl : l.length < 10) (x t : Int32) : ∀ (j k m : Nat), k + j = l.length → j < m → (∀ (i : Nat) (e : Int32 × Int32), i < k → l[i]? = some e → e.1 ≠ x) → f_X1_take_L43 m M (nI p) x t (nI (10 * p + l.length)) (nI (10 * p + k)) = some (if x ∈ l.map Prod.fst then M else mrow 11 12 13 M p l.length x t) := by
  intro j
  induction j with
  | zero =>
    intro k m hk hm hno
    obtain ⟨m, rfl⟩ : ∃ m', m = m' + 1 := ⟨m - 1, by omega⟩
    have hn : ¬ x ∈ l.map Prod.fst := fun h => by
      obtain ⟨i, e, hi, he⟩ := mem_fst.mp h
      exact hno i e (by have := getq_lt hi; omega) hi he
    rw [f_X1_take_L43, if_pos (nI_le (by omega) (by omega)), if_neg hn, sto_ok (by omega), b_s, sto_ok (by omega), b_s, ld_ok hp, b_s, sto_ok hp, b_s, mst_n _ _ _ (by decide), mst_n _ _ _ (by decide), r.1, nI_1]
    rfl
  | succ j ih =>
    intro k m hk hm hno
    obtain ⟨m, rfl⟩ : ∃ m', m = m' + 1 := ⟨m - 1, by omega⟩
    obtain ⟨e, he⟩ := getq (l := l) (k := k) (by omega)
    rw [f_X1_take_L43, if_neg (nI_ge (by omega) (by omega)), ld_ok (by omega), b_s, (r.2 k e he).1]
    by_cases c : e.1 = x
    · rw [if_pos c, if_pos (mem_fst.mpr ⟨k, e, he, c⟩)]
    · rw [if_neg c, nI_1, show 10 * p + k + 1 = 10 * p + (k + 1) by omega]
      refine ih (k + 1) m (by omega) (by omega) (fun i d hi hd => ?_)
      rcases Nat.lt_or_ge i k with q | q
      · exact hno i d q hd
      · have : i = k := by omega
        subst this
        rw [he] at hd
        cases hd
        exact c
theorem X1_take (hp : p < 17) (r : RowIs 11 12 13 M p l) (hq : QOK l) {x t : Int32} (hx : ∃ a, a < 10 ∧ x = nI a) : ∃ M1, f_X1_take M (nI p) x t = some M1 ∧ RowIs 11 12 13 M1 p (qadd l (x, t)) ∧ FrT 11 12 13 M M1 p := by
  have hl := QOK_len hq
  unfold f_X1_take
  rw [if_neg (nI_nlt0 (by omega)), if_neg (show ¬ (17 : Int32) ≤ nI p from nI_ge hp (by decide)), ld_ok hp, b_s, r.1]
  by_cases h10 : l.length < 10
  · rw [if_pos (show nI l.length < (10 : Int32) from nI_lt (b := 10) h10 (by decide)), b_s, ix10, ix10z, show nI (10 * p) = nI (10 * p + 0) from rfl, X1_take_L43 hp r h10 x t l.length 0 FU (by omega) (by unfold FU; omega) (fun i e hi => by omega)]
    refine ⟨_, rfl, ?_⟩
    unfold qadd
    by_cases c : x ∈ l.map Prod.fst
    · rw [if_pos c, if_pos c]
      exact ⟨r, FrT_rf⟩
    · rw [if_neg c, if_neg c]
      exact ⟨mrow_is x t r (by decide) (by decide) (by decide), mrow_fr M x t h10 (by decide) (by decide) (by decide)⟩
  · rw [if_neg (show ¬ nI l.length < (10 : Int32) from nI_nlt (b := 10) (by omega) (by omega))]
    refine ⟨M, rfl, ?_, FrT_rf⟩
    have h1 := QOK_len (QOK_add hq (e := (x, t)) hx)
    unfold qadd at h1 ⊢
    by_cases c : x ∈ l.map Prod.fst
    · rw [if_pos c]; exact r
    · rw [if_neg c] at h1
      simp at h1
      omega
theorem R_takes_L6 (hp : p < 17) (r : RowIs 38 39 40 M p l) (hl : l.length ≤ 10) (x t : Int32) : ∀ (j k m : Nat) (b : Int32), k + j = l.length → j < m → (b = 0 ∨ b = 1) → (b = 1 ↔ ∃ (i : Nat) (e : Int32 × Int32), i < k ∧ l[i]? = some e ∧ e.1 = x) → f_X11_takes_L6 m M (nI p) x t b (nI k) = some (if x ∈ l.map Prod.fst then 1 else 0) := by
  intro j
  induction j with
  | zero =>
    intro k m b hk hm hb hno
    obtain ⟨m, rfl⟩ : ∃ m', m = m' + 1 := ⟨m - 1, by omega⟩
    rw [f_X11_takes_L6, ld_ok hp, b_s, r.1, if_pos (nI_le (by omega) (by omega))]
    by_cases c : x ∈ l.map Prod.fst
    · obtain ⟨i, e, hi, he⟩ := mem_fst.mp c
      rw [if_pos c, hno.mpr ⟨i, e, by have := getq_lt hi; omega, hi, he⟩]
    · rw [if_neg c]
      rcases hb with rfl | rfl
      · rfl
      · obtain ⟨i, e, -, hi, he⟩ := hno.mp rfl
        exact absurd (mem_fst.mpr ⟨i, e, hi, he⟩) c
  | succ j ih =>
    intro k m b hk hm hb hno
    obtain ⟨m, rfl⟩ : ∃ m', m = m' + 1 := ⟨m - 1, by omega⟩
    obtain ⟨e, he⟩ := getq (l := l) (k := k) (by omega)
    rw [f_X11_takes_L6, ld_ok hp, b_s, r.1, if_neg (nI_ge (by omega) (by omega)), ix10r, ld_ok (by omega), b_s, (r.2 k e he).1, nI_1]
    rcases hb with rfl | rfl
    · rw [if_pos rfl]
      by_cases c : e.1 = x
      · rw [if_pos c, b_s]
        exact ih (k + 1) m 1 (by omega) (by omega) (Or.inr rfl) ⟨fun _ => ⟨k, e, by omega, he, c⟩, fun _ => rfl⟩
      · rw [if_neg c, b_s]
        refine ih (k + 1) m 0 (by omega) (by omega) (Or.inl rfl) ⟨fun h => absurd h (by decide), ?_⟩
        rintro ⟨i, d, h1, h2, h3⟩
        rcases Nat.lt_or_ge i k with q | q
        · exact hno.mpr ⟨i, d, q, h2, h3⟩
        · have : i = k := by omega
          subst this
          rw [he] at h2
          cases h2
          exact absurd h3 c
    · rw [if_neg (by decide), b_s]
      refine ih (k + 1) m 1 (by omega) (by omega) (Or.inr rfl) ⟨fun _ => ?_, fun _ => rfl⟩
      obtain ⟨i, d, h1, h2⟩ := hno.mp rfl
      exact ⟨i, d, by omega, h2⟩
theorem R_takes (hp : p < 17) (r : RowIs 38 39 40 M p l) (hq : QOK l) {x t : Int32} (hx : ∃ a, a < 10 ∧ x = nI a) : ∃ M1, f_X11_takes M (nI p) x t = some M1 ∧ RowIs 38 39 40 M1 p (qadd l (x, t)) ∧ FrT 38 39 40 M M1 p := by
  have hl := QOK_len hq
  unfold f_X11_takes
  rw [show f_X11_takes_L6 FU M (nI p) x t (0 : Int32) (0 : Int32) = _ from R_takes_L6 hp r hl x t l.length 0 FU 0 (by omega) (by unfold FU; omega) (Or.inl rfl) ⟨fun h => absurd h (by decide), fun h => by obtain ⟨i, e, h1, -⟩ := h; omega⟩, b_s]
  have h1 := QOK_len (QOK_add hq (e := (x, t)) hx)
  unfold qadd at h1 ⊢
  by_cases c : x ∈ l.map Prod.fst
  · rw [if_pos c, if_neg (by decide), b_s, if_pos c]
    exact ⟨M, rfl, r, FrT_rf⟩
  · rw [if_neg c] at h1
    simp at h1
    rw [if_neg c, if_pos rfl, ld_ok hp, b_s, r.1, ix10r, sto_ok (by omega), b_s, ld_ok hp, b_s, mst_n _ _ _ (by decide), r.1, ix10r, sto_ok (by omega), b_s, ld_ok hp, b_s, mst_n _ _ _ (by decide), mst_n _ _ _ (by decide), r.1, nI_1, sto_ok hp, b_s, b_s, if_neg c]
    exact ⟨_, rfl, mrow_is x t r (by decide) (by decide) (by decide), mrow_fr M x t (by omega) (by decide) (by decide) (by decide)⟩
end Take
