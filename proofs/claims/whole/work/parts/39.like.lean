/-! how like the monument is to what one bears; who most likely -/
def nrow (f : Nat → Nat) (sg : Int32) (l : QL) : Nat → Nat
  | 0 => f 0
  | k + 1 => if (l[k]?).map (fun e => e.1) = some sg then f k + 1 else max (f (k + 1)) (nrow f sg l k)
def stepy (f : Nat → Nat) : Prop := f 0 = 0 ∧ ∀ k, f k ≤ f (k + 1) ∧ f (k + 1) ≤ f k + 1
theorem stepy_le {f : Nat → Nat} (h : stepy f) : ∀ k, f k ≤ k
  | 0 => by rw [h.1]; exact Nat.le_refl 0
  | k + 1 => by have := stepy_le h k; have := (h.2 k).2; omega
theorem nrow_ge {f : Nat → Nat} (h : stepy f) (sg : Int32) (l : QL) : ∀ k, f k ≤ nrow f sg l k
  | 0 => Nat.le_refl _
  | k + 1 => by
    rw [nrow]
    split
    · exact (h.2 k).2
    · exact Nat.le_max_left _ _
theorem nrow_le {f : Nat → Nat} (h : stepy f) (sg : Int32) (l : QL) : ∀ k, nrow f sg l k ≤ f k + 1
  | 0 => by rw [nrow]; omega
  | k + 1 => by
    rw [nrow]
    have := nrow_le h sg l k
    have := h.2 k
    split <;> omega
theorem nrow_stepy {f : Nat → Nat} (h : stepy f) (sg : Int32) (l : QL) : stepy (nrow f sg l) := by
  refine ⟨h.1, fun k => ?_⟩
  have a := nrow_le h sg l k
  have b := nrow_ge h sg l k
  have d := h.2 k
  rw [nrow]
  split <;> omega
/-- the rows behind s signs -/
def lk (c : Nat → Int32) (l : QL) : Nat → Nat → Nat
  | 0 => fun _ => 0
  | s + 1 => if c (3 + s) = 10 then lk c l s else nrow (lk c l s) (c (3 + s)) l
theorem lk_stepy (c : Nat → Int32) (l : QL) : ∀ s, stepy (lk c l s)
  | 0 => ⟨rfl, fun k => ⟨Nat.le_refl _, Nat.zero_le _⟩⟩
  | s + 1 => by
    rw [lk]
    split
    · exact lk_stepy c l s
    · exact nrow_stepy (lk_stepy c l s) _ _
def likeV (c : Nat → Int32) (L : Nat) (l : QL) : Nat := lk c l L l.length
theorem RowIs_q {a b d : Nat} {M M1 : MM} {p : Nat} {l : QL} (ha : M1 a = M a) (hb : M1 b = M b) (hd : M1 d = M d) (r : RowIs a b d M p l) : RowIs a b d M1 p l := by
  unfold RowIs
  rw [ha, hb, hd]
  exact r
section LikeX
variable {c : Nat → Int32} {n p L : Nat} {l : QL}
theorem X8_like_L15 (x : Int32) {len : Nat} (hlen : len ≤ 10) : ∀ (j k m : Nat) (M : MM), k + j = len + 1 → j < m → (∀ i, i < k → M 19 i = 0) → ∃ M1, f_X8_like_L15 m M x (nI len) (nI k) = some M1 ∧ (∀ i, i ≤ len → M1 19 i = 0) ∧ ∀ q, q ≠ 19 → M1 q = M q := by
  intro j
  induction j with
  | zero =>
    intro k m M hk hm h0
    obtain ⟨m, rfl⟩ : ∃ m', m = m' + 1 := ⟨m - 1, by omega⟩
    refine ⟨M, ?_, fun i hi => h0 i (by omega), fun _ _ => rfl⟩
    rw [f_X8_like_L15, if_pos (nI_lt (by omega) (by omega))]
  | succ j ih =>
    intro k m M hk hm h0
    obtain ⟨m, rfl⟩ : ∃ m', m = m' + 1 := ⟨m - 1, by omega⟩
    rw [f_X8_like_L15, if_neg (nI_nlt (by omega) (by omega)), sto_ok (by omega), b_s, nI_1]
    obtain ⟨M1, e1, h1, h2⟩ := ih (k + 1) m (mst M 19 k 0) (by omega) (by omega) (fun i hi => by
      by_cases e : i = k
      · subst e; rw [mst_ss]
      · rw [mst_sn _ _ _ e]; exact h0 i (by omega))
    exact ⟨M1, e1, h1, fun q hq => (h2 q hq).trans (mst_n _ _ _ hq)⟩
theorem X8_one_L6 (hp : p < 17) (hl : l.length ≤ 10) {f : Nat → Nat} (hf : stepy f) (sg : Int32) : ∀ (j k m : Nat) (M : MM), k + j = l.length + 1 → j < m → 1 ≤ k → RowIs 11 12 13 M p l → (∀ i, i < k → M 19 i = nI (nrow f sg l i)) → (∀ i, k ≤ i → i ≤ l.length → M 19 i = nI (f i)) → ∃ M1, f_X8_countOneMore_L6 m M sg (nI p) (nI l.length) (nI (f (k - 1))) (nI k) = some M1 ∧ (∀ i, i ≤ l.length → M1 19 i = nI (nrow f sg l i)) ∧ ∀ q, q ≠ 19 → M1 q = M q := by
  intro j
  induction j with
  | zero =>
    intro k m M hk hm h1 r h2 h3
    obtain ⟨m, rfl⟩ : ∃ m', m = m' + 1 := ⟨m - 1, by omega⟩
    refine ⟨M, ?_, fun i hi => h2 i (by omega), fun _ _ => rfl⟩
    rw [f_X8_countOneMore_L6, if_pos (nI_lt (by omega) (by omega))]
  | succ j ih =>
    intro k m M hk hm h1 r h2 h3
    obtain ⟨m, rfl⟩ : ∃ m', m = m' + 1 := ⟨m - 1, by omega⟩
    obtain ⟨k, rfl⟩ : ∃ k', k = k' + 1 := ⟨k - 1, by omega⟩
    obtain ⟨e, he⟩ := getq (l := l) (k := k) (by omega)
    have fk := stepy_le hf
    have ek : nI (k + 1) - (1 : Int32) = nI k := nI_pred k
    rw [f_X8_countOneMore_L6, if_neg (nI_nlt (by omega) (by omega)), if_neg (show ¬ (11 : Int32) ≤ nI (k + 1) from nI_ge (b := 11) (by omega) (by decide)), ld_ok (by omega), b_s, h3 (k + 1) (Nat.le_refl _) (by omega), ek, X1_armsAt hp r hl he, b_s, b_s, ld_ok (by omega), b_s, h2 k (by omega), show k + 1 - 1 = k from rfl]
    have fin : ∀ v : Nat, v = nrow f sg l (k + 1) → ∃ M1, f_X8_countOneMore_L6 m (mst M 19 (k + 1) (nI v)) sg (nI p) (nI l.length) (nI (f (k + 1))) (nI (k + 1) + (1 : Int32)) = some M1 ∧ (∀ i, i ≤ l.length → M1 19 i = nI (nrow f sg l i)) ∧ ∀ q, q ≠ 19 → M1 q = M q := by
      intro v hv
      rw [nI_1]
      obtain ⟨M1, e1, g1, g2⟩ := ih (k + 1 + 1) m (mst M 19 (k + 1) (nI v)) (by omega) (by omega) (by omega) (RowIs_q (mst_n _ _ _ (by decide)) (mst_n _ _ _ (by decide)) (mst_n _ _ _ (by decide)) r) (fun i hi => by
        by_cases q : i = k + 1
        · subst q; rw [mst_ss, hv]
        · rw [mst_sn _ _ _ q]; exact h2 i (by omega)) (fun i a b => by rw [mst_sn _ _ _ (by omega)]; exact h3 i (by omega) b)
      exact ⟨M1, e1, g1, fun q hq => (g2 q hq).trans (mst_n _ _ _ hq)⟩
    by_cases h : e.1 = sg
    · rw [if_pos h, nI_1, sto_ok (by omega), b_s, b_s]
      refine fin (f k + 1) ?_
      rw [nrow, if_pos (by rw [he]; simp [h])]
    · rw [if_neg h]
      have hn : nrow f sg l (k + 1) = max (f (k + 1)) (nrow f sg l k) := by rw [nrow, if_neg (by rw [he]; simpa using h)]
      have b1 := nrow_le hf sg l k
      have b2 := fk k
      have b3 := fk (k + 1)
      by_cases g : f (k + 1) < nrow f sg l k
      · rw [if_pos (nI_lt g (by omega)), sto_ok (by omega), b_s, b_s]
        exact fin _ (by rw [hn]; omega)
      · rw [if_neg (nI_nlt (by omega) (by omega)), sto_ok (by omega), b_s, b_s]
        exact fin _ (by rw [hn]; omega)
theorem X8_like_L39 (hw : WF c n) (hp : p < 17) (hl : l.length ≤ 10) (hL : L ≤ 10) (h2 : c 2 = nI L) : ∀ (j s m : Nat) (M : MM), s + j = L → j < m → Rc c M → RowIs 11 12 13 M p l → (∀ i, i ≤ l.length → M 19 i = nI (lk c l s i)) → ∃ M1, f_X8_like_L39 m M (nI p) (nI l.length) (nI s) = some M1 ∧ (∀ i, i ≤ l.length → M1 19 i = nI (lk c l L i)) ∧ ∀ q, q ≠ 19 → M1 q = M q := by
  intro j
  induction j with
  | zero =>
    intro s m M hs hm hc r h3
    obtain ⟨m, rfl⟩ : ∃ m', m = m' + 1 := ⟨m - 1, by omega⟩
    obtain rfl : s = L := by omega
    refine ⟨M, ?_, h3, fun _ _ => rfl⟩
    rw [f_X8_like_L39, X7_signs hc, b_s, h2, if_pos (nI_le (by omega) (by omega))]
  | succ j ih =>
    intro s m M hs hm hc r h3
    obtain ⟨m, rfl⟩ : ∃ m', m = m' + 1 := ⟨m - 1, by omega⟩
    rw [f_X8_like_L39, X7_signs hc, b_s, h2, if_neg (nI_ge (by omega) (by omega)), X7_sign_in hc hL h2 (by omega), b_s, nI_1]
    by_cases h : c (3 + s) = 10
    · rw [if_pos h, b_s]
      have el : lk c l (s + 1) = lk c l s := by rw [lk, if_pos h]
      exact ih (s + 1) m M (by omega) (by omega) hc r (by rw [el]; exact h3)
    · have el : lk c l (s + 1) = nrow (lk c l s) (c (3 + s)) l := by rw [lk, if_neg h]
      have hst := lk_stepy c l s
      obtain ⟨M1, e1, g1, g2⟩ := X8_one_L6 hp hl hst (c (3 + s)) l.length 1 FU M (by omega) (by unfold FU; omega) (Nat.le_refl 1) r (fun i hi => by
        obtain rfl : i = 0 := by omega
        rw [nrow]; exact h3 0 (by omega)) (fun i a b => h3 i b)
      have e2 : f_X8_countOneMore M (c (3 + s)) (nI p) (nI l.length) = some M1 := by
        unfold f_X8_countOneMore
        rw [show (0 : Int32) = nI (lk c l s (1 - 1)) by rw [show 1 - 1 = 0 from rfl, hst.1]; rfl, show f_X8_countOneMore_L6 FU M (c (3 + s)) (nI p) (nI l.length) (nI (lk c l s (1 - 1))) (1 : Int32) = some M1 from e1, b_s]
      rw [if_neg h, b_s, e2, b_s, b_s]
      have hc1 : Rc c M1 := fun i hi => by rw [g2 10 (by decide)]; exact hc i hi
      obtain ⟨M2, e3, g3, g4⟩ := ih (s + 1) m M1 (by omega) (by omega) hc1 (RowIs_q (g2 11 (by decide)) (g2 12 (by decide)) (g2 13 (by decide)) r) (by rw [el]; exact g1)
      exact ⟨M2, e3, g3, fun q hq => (g4 q hq).trans (g2 q hq)⟩
theorem X8_like {M : MM} (hw : WF c n) (hc : Rc c M) (hp : p < 17) (r : RowIs 11 12 13 M p l) (hl : l.length ≤ 10) (hL : L ≤ 10) (h2 : c 2 = nI L) : ∃ M1, f_X8_like M (nI p) = some (nI (likeV c L l), M1) ∧ ∀ q, q ≠ 19 → M1 q = M q := by
  unfold f_X8_like
  have em : (if (10 : Int32) < nI l.length then (10 : Int32) else nI l.length) = nI l.length := if_neg (show ¬ nI 10 < nI l.length from nI_nlt hl (by decide))
  rw [X1_sizeOf hp r, b_s, em]
  obtain ⟨M1, e1, g1, g2⟩ := X8_like_L15 (nI p) hl (l.length + 1) 0 FU M (by omega) (by unfold FU; omega) (fun i hi => by omega)
  rw [show f_X8_like_L15 FU M (nI p) (nI l.length) (0 : Int32) = some M1 from e1, b_s]
  have hc1 : Rc c M1 := fun i hi => by rw [g2 10 (by decide)]; exact hc i hi
  obtain ⟨M2, e2, g3, g4⟩ := X8_like_L39 hw hp hl hL h2 L 0 FU M1 (by omega) (by unfold FU; omega) hc1 (RowIs_q (g2 11 (by decide)) (g2 12 (by decide)) (g2 13 (by decide)) r) (fun i hi => by rw [g1 i hi]; rfl)
  rw [show f_X8_like_L39 FU M1 (nI p) (nI l.length) (0 : Int32) = some M2 from e2, b_s, ld_ok (by omega), b_s, g3 l.length (Nat.le_refl _)]
  exact ⟨M2, rfl, fun q hq => (g4 q hq).trans (g2 q hq)⟩
end LikeX
section LikeR
variable {c : Nat → Int32} {n p L : Nat} {l : QL}
theorem R_like_L2 (hp : p < 17) (hl : l.length ≤ 10) : ∀ (j k m : Nat) (M : MM), k + j = l.length + 1 → j < m → RowIs 38 39 40 M p l → (∀ i, i < k → M 43 i = 0) → ∃ M1, f_X11_like_L2 m M (nI p) (nI k) = some M1 ∧ (∀ i, i ≤ l.length → M1 43 i = 0) ∧ ∀ q, q ≠ 43 → M1 q = M q := by
  intro j
  induction j with
  | zero =>
    intro k m M hk hm r h0
    obtain ⟨m, rfl⟩ : ∃ m', m = m' + 1 := ⟨m - 1, by omega⟩
    refine ⟨M, ?_, fun i hi => h0 i (by omega), fun _ _ => rfl⟩
    rw [f_X11_like_L2, ld_ok hp, b_s, r.1, if_pos (nI_lt (by omega) (by omega))]
  | succ j ih =>
    intro k m M hk hm r h0
    obtain ⟨m, rfl⟩ : ∃ m', m = m' + 1 := ⟨m - 1, by omega⟩
    rw [f_X11_like_L2, ld_ok hp, b_s, r.1, if_neg (nI_nlt (by omega) (by omega)), sto_ok (by omega), b_s, nI_1]
    obtain ⟨M1, e1, h1, h2⟩ := ih (k + 1) m (mst M 43 k 0) (by omega) (by omega) (RowIs_q (mst_n _ _ _ (by decide)) (mst_n _ _ _ (by decide)) (mst_n _ _ _ (by decide)) r) (fun i hi => by
      by_cases e : i = k
      · subst e; rw [mst_ss]
      · rw [mst_sn _ _ _ e]; exact h0 i (by omega))
    exact ⟨M1, e1, h1, fun q hq => (h2 q hq).trans (mst_n _ _ _ hq)⟩
theorem R_like_L42 (hp : p < 17) (hl : l.length ≤ 10) {f : Nat → Nat} (hf : stepy f) {s : Nat} (hs10 : s < 10) (hsg : ¬ c (3 + s) = 10) : ∀ (j k m : Nat) (M : MM), k + j = l.length → j < m → Sw c (M 32) 0 → RowIs 38 39 40 M p l → (∀ i, i ≤ k → M 43 i = nI (nrow f (c (3 + s)) l i)) → (∀ i, k < i → i ≤ l.length → M 43 i = nI (f i)) → ∃ M1, f_X11_like_L42 m M (nI p) (nI s) (nI (f k)) (nI k) = some M1 ∧ (∀ i, i ≤ l.length → M1 43 i = nI (nrow f (c (3 + s)) l i)) ∧ ∀ q, q ≠ 43 → M1 q = M q := by
  intro j
  induction j with
  | zero =>
    intro k m M hk hm hs r h2 h3
    obtain ⟨m, rfl⟩ : ∃ m', m = m' + 1 := ⟨m - 1, by omega⟩
    refine ⟨M, ?_, fun i hi => h2 i (by omega), fun _ _ => rfl⟩
    rw [f_X11_like_L42, ld_ok hp, b_s, r.1, if_pos (nI_le (by omega) (by omega))]
  | succ j ih =>
    intro k m M hk hm hs r h2 h3
    obtain ⟨m, rfl⟩ : ∃ m', m = m' + 1 := ⟨m - 1, by omega⟩
    obtain ⟨e, he⟩ := getq (l := l) (k := k) (by omega)
    have fk := stepy_le hf
    have b1 := nrow_le hf (c (3 + s)) l k
    have b0 := nrow_ge hf (c (3 + s)) l k
    have b2 := fk k
    have b3 := fk (k + 1)
    have b4 := hf.2 k
    rw [f_X11_like_L42, ld_ok hp, b_s, r.1, if_neg (nI_ge (by omega) (by omega)), R_sign hs hs10, b_s, if_neg hsg, nI_1, ld_ok (by omega), b_s, h3 (k + 1) (by omega) (by omega), ix10r, ld_ok (by omega), b_s, (r.2 k e he).1, b_s, nI_1]
    have fin : ∀ v : Nat, v = nrow f (c (3 + s)) l (k + 1) → ∃ M1, (z_sto M 43 11 (nI (k + 1)) (nI v)).bind (fun M158 => f_X11_like_L42 m M158 (nI p) (nI s) (nI (f (k + 1))) (nI (k + 1))) = some M1 ∧ (∀ i, i ≤ l.length → M1 43 i = nI (nrow f (c (3 + s)) l i)) ∧ ∀ q, q ≠ 43 → M1 q = M q := by
      intro v hv
      rw [sto_ok (by omega), b_s]
      obtain ⟨M1, e1, g1, g2⟩ := ih (k + 1) m (mst M 43 (k + 1) (nI v)) (by omega) (by omega) (by rw [mst_n _ _ _ (by decide)]; exact hs) (RowIs_q (mst_n _ _ _ (by decide)) (mst_n _ _ _ (by decide)) (mst_n _ _ _ (by decide)) r) (fun i hi => by
        by_cases q : i = k + 1
        · subst q; rw [mst_ss, hv]
        · rw [mst_sn _ _ _ q]; exact h2 i (by omega)) (fun i a b => by rw [mst_sn _ _ _ (by omega)]; exact h3 i (by omega) b)
      exact ⟨M1, e1, g1, fun q hq => (g2 q hq).trans (mst_n _ _ _ hq)⟩
    have last : ∀ its : Nat, its ≤ 20 → max its (nrow f (c (3 + s)) l k) = nrow f (c (3 + s)) l (k + 1) → ∃ M1, (z_ld M 43 11 (nI k)).bind (fun v142 => (if v142 ≤ nI its then some (nI its) else (z_ld M 43 11 (nI k)).bind fun v152 => some v152).bind fun j143 => (z_sto M 43 11 (nI (k + 1)) j143).bind (fun M158 => f_X11_like_L42 m M158 (nI p) (nI s) (nI (f (k + 1))) (nI (k + 1)))) = some M1 ∧ (∀ i, i ≤ l.length → M1 43 i = nI (nrow f (c (3 + s)) l i)) ∧ ∀ q, q ≠ 43 → M1 q = M q := by
      intro its hi hv
      rw [ld_ok (by omega), b_s, h2 k (Nat.le_refl k), b_s]
      by_cases g : nrow f (c (3 + s)) l k ≤ its
      · rw [if_pos (nI_le g (by omega)), b_s]
        exact fin _ (by omega)
      · rw [if_neg (nI_ge (by omega) (by omega)), b_s]
        exact fin _ (by omega)
    by_cases h : e.1 = c (3 + s)
    · rw [if_pos h, b_s, if_pos (nI_le (by omega) (by omega)), b_s]
      exact last (f k + 1) (by omega) (by rw [nrow, if_pos (by rw [he]; simp [h])]; omega)
    · rw [if_neg h, b_s, if_pos (nI_le (Nat.le_refl _) (by omega)), b_s]
      exact last (f (k + 1)) (by omega) (by rw [nrow, if_neg (by rw [he]; simpa using h)])
theorem R_like_L27 (hw : WF c n) (hp : p < 17) (hl : l.length ≤ 10) (hL : L ≤ 10) (h2 : c 2 = nI L) : ∀ (j s m : Nat) (M : MM), s + j = L → j < m → Sw c (M 32) 0 → RowIs 38 39 40 M p l → (∀ i, i ≤ l.length → M 43 i = nI (lk c l s i)) → ∃ M1, f_X11_like_L27 m M (nI p) (nI s) = some M1 ∧ (∀ i, i ≤ l.length → M1 43 i = nI (lk c l L i)) ∧ ∀ q, q ≠ 43 → M1 q = M q := by
  intro j
  induction j with
  | zero =>
    intro s m M hs hm hc r h3
    obtain ⟨m, rfl⟩ : ∃ m', m = m' + 1 := ⟨m - 1, by omega⟩
    obtain rfl : s = L := by omega
    refine ⟨M, ?_, h3, fun _ _ => rfl⟩
    rw [f_X11_like_L27, R_len hc, b_s, h2, if_pos (nI_le (by omega) (by omega))]
  | succ j ih =>
    intro s m M hs hm hc r h3
    obtain ⟨m, rfl⟩ : ∃ m', m = m' + 1 := ⟨m - 1, by omega⟩
    rw [f_X11_like_L27, R_len hc, b_s, h2, if_neg (nI_ge (by omega) (by omega)), nI_1]
    have hst := lk_stepy c l s
    by_cases h : c (3 + s) = 10
    · have el : lk c l (s + 1) = lk c l s := by rw [lk, if_pos h]
      have e1 : f_X11_like_L42 FU M (nI p) (nI s) (0 : Int32) (0 : Int32) = some M := by
        rw [show FU = 99999 + 1 from rfl, f_X11_like_L42, ld_ok hp, b_s, R_sign hc (by omega), b_s, if_pos h]
        by_cases g : M 38 p ≤ 0
        · rw [if_pos g]
        · rw [if_neg g]
      rw [e1, b_s]
      exact ih (s + 1) m M (by omega) (by omega) hc r (by rw [el]; exact h3)
    · have el : lk c l (s + 1) = nrow (lk c l s) (c (3 + s)) l := by rw [lk, if_neg h]
      obtain ⟨M1, e1, g1, g2⟩ := R_like_L42 hp hl hst (show s < 10 by omega) h l.length 0 FU M (by omega) (by unfold FU; omega) hc r (fun i hi => by
        obtain rfl : i = 0 := by omega
        rw [nrow]; exact h3 0 (by omega)) (fun i a b => h3 i b)
      rw [show (0 : Int32) = nI (lk c l s 0) by rw [hst.1]; rfl, show f_X11_like_L42 FU M (nI p) (nI s) (nI (lk c l s 0)) (nI (lk c l s 0)) = some M1 by rw [show nI (lk c l s 0) = nI 0 by rw [hst.1]] at e1 ⊢; exact e1, b_s]
      obtain ⟨M2, e3, g3, g4⟩ := ih (s + 1) m M1 (by omega) (by omega) (by rw [g2 32 (by decide)]; exact hc) (RowIs_q (g2 38 (by decide)) (g2 39 (by decide)) (g2 40 (by decide)) r) (by rw [el]; exact g1)
      exact ⟨M2, e3, g3, fun q hq => (g4 q hq).trans (g2 q hq)⟩
theorem R_like {M : MM} (hw : WF c n) (hs : Sw c (M 32) 0) (hp : p < 17) (r : RowIs 38 39 40 M p l) (hl : l.length ≤ 10) (hL : L ≤ 10) (h2 : c 2 = nI L) : ∃ M1, f_X11_like M (nI p) = some (nI (likeV c L l), M1) ∧ ∀ q, q ≠ 43 → M1 q = M q := by
  unfold f_X11_like
  obtain ⟨M1, e1, g1, g2⟩ := R_like_L2 hp hl (l.length + 1) 0 FU M (by omega) (by unfold FU; omega) r (fun i hi => by omega)
  rw [show f_X11_like_L2 FU M (nI p) (0 : Int32) = some M1 from e1, b_s]
  have r1 := RowIs_q (g2 38 (by decide)) (g2 39 (by decide)) (g2 40 (by decide)) r
  obtain ⟨M2, e2, g3, g4⟩ := R_like_L27 hw hp hl hL h2 L 0 FU M1 (by omega) (by unfold FU; omega) (by rw [g2 32 (by decide)]; exact hs) r1 (fun i hi => by rw [g1 i hi]; rfl)
  have r2 := RowIs_q (g4 38 (by decide)) (g4 39 (by decide)) (g4 40 (by decide)) r1
  rw [show f_X11_like_L27 FU M1 (nI p) (0 : Int32) = some M2 from e2, b_s, ld_ok hp, b_s, r2.1, ld_ok (by omega), b_s, g3 l.length (Nat.le_refl _)]
  exact ⟨M2, rfl, fun q hq => (g4 q hq).trans (g2 q hq)⟩
end LikeR
