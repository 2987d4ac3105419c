/-! numbers, memory, the words of the functions -/
theorem b_s {α β : Type} (a : α) (f : α → Option β) : (some a).bind f = f a := rfl
theorem rz0 : z_rzp 0 = some 0 := rfl
theorem rz1 : z_rzp 1 = some 1 := rfl
theorem rzM0 (M : MM) : z_rz 0 M = some (0, M) := rfl
theorem rzM1 (M : MM) : z_rz 1 M = some (1, M) := rfl
theorem ld_ok {M : MM} {q n i : Nat} (h : i < n) (hn : n < 2 ^ 31 := by decide) : z_ld M q n (nI i) = some (M q i) := by
  unfold z_ld
  rw [if_neg (nI_in h hn), nI_clamp (by omega)]
theorem sto_ok {M : MM} {q n i : Nat} {v : Int32} (h : i < n) (hn : n < 2 ^ 31 := by decide) : z_sto M q n (nI i) v = some (mst M q i v) := by
  unfold z_sto
  rw [if_neg (nI_in h hn), nI_clamp (by omega)]
theorem stz_ok {M : MM} {q n i : Nat} {v : Int32} (h : i < n) (hv : v = 0 ∨ v = 1) (hn : n < 2 ^ 31 := by decide) : z_stz M q n (nI i) v = some (mst M q i v) := by
  unfold z_stz
  rw [if_pos hv, if_neg (nI_in h hn), nI_clamp (by omega)]
theorem mcp_s (M : MM) (q : Nat) (f : Nat → Int32) : mcp M q f q = f := by unfold mcp; rw [if_pos rfl]
theorem mcp_n (M : MM) {q k : Nat} (f : Nat → Int32) (h : k ≠ q) : mcp M q f k = M k := by unfold mcp; rw [if_neg h]
theorem mst_s (M : MM) (q j : Nat) (v : Int32) : mst M q j v q = upd (M q) j v := mcp_s M q _
theorem mst_n (M : MM) {q k : Nat} (j : Nat) (v : Int32) (h : k ≠ q) : mst M q j v k = M k := mcp_n M _ h
theorem mst_ss (M : MM) (q j : Nat) (v : Int32) : mst M q j v q j = v := by rw [mst_s]; exact pk_us
theorem mst_sn (M : MM) (q : Nat) {j i : Nat} (v : Int32) (h : i ≠ j) : mst M q j v q i = M q i := by rw [mst_s]; exact pk_un h
theorem upd_s (f : Nat → Int32) (k : Nat) (x : Int32) : upd f k x k = x := pk_us
theorem upd_n (f : Nat → Int32) {k j : Nat} (x : Int32) (h : j ≠ k) : upd f k x j = f j := pk_un h
theorem nI_nlt0 {n : Nat} (h : n < 2 ^ 31) : ¬ nI n < 0 := nI_pos h
theorem nI_ne_m1 {n : Nat} (h : n < 2 ^ 31) : ¬ nI n = -1 := by
  intro e
  have h1 := congrArg Int32.toInt e
  rw [nI_toInt h, show (-1 : Int32).toInt = -1 by decide] at h1
  omega
theorem nI_inj {a b : Nat} (ha : a < 2 ^ 31) (hb : b < 2 ^ 31) (h : nI a = nI b) : a = b := (nI_eq ha hb).mp h
/-- an int is below 0, or from n on, or a number below n -/
theorem ix3 (x : Int32) {n : Nat} (hn : n < 2 ^ 31) : x < 0 ∨ (¬ x < 0 ∧ nI n ≤ x) ∨ ∃ j : Nat, j < n ∧ x = nI j := by
  rcases pk_ix x hn with h | h | h
  · exact Or.inl h
  · by_cases h0 : x < 0
    · exact Or.inl h0
    · exact Or.inr (Or.inl ⟨h0, h⟩)
  · exact Or.inr (Or.inr h)
theorem ti_lt {a b : Int32} : a < b ↔ a.toInt < b.toInt := Int32.lt_iff_toInt_lt
theorem ti_le {a b : Int32} : a ≤ b ↔ a.toInt ≤ b.toInt := Int32.le_iff_toInt_le
theorem ti_eq {a b : Int32} : a = b ↔ a.toInt = b.toInt := Int32.toInt_inj.symm
theorem ti_n {n : Nat} (h : n < 2 ^ 31) : (nI n).toInt = (n : Int) := nI_toInt h
/-- sums and differences that stay small -/
theorem ti_add {a b : Int32} (h : -2147483648 ≤ a.toInt + b.toInt) (h2 : a.toInt + b.toInt < 2147483648) : (a + b).toInt = a.toInt + b.toInt := by
  rw [Int32.toInt_add]
  exact Int.bmod_eq_of_le (by omega) (by omega)
theorem ti_sub {a b : Int32} (h : -2147483648 ≤ a.toInt - b.toInt) (h2 : a.toInt - b.toInt < 2147483648) : (a - b).toInt = a.toInt - b.toInt := by
  rw [Int32.toInt_sub]
  exact Int.bmod_eq_of_le (by omega) (by omega)
/-! sets of people: bit k for k -/
def bs (f : Nat → Bool) : Nat → Int32
  | 0 => 0
  | n + 1 => if f n = true then bs f n ||| ((1 : Int32) <<< (nI n &&& 31)) else bs f n
theorem bs_congr {f g : Nat → Bool} : ∀ {n : Nat}, (∀ k, k < n → f k = g k) → bs f n = bs g n
  | 0, _ => rfl
  | n + 1, h => by
    rw [bs, bs, bs_congr (fun k hk => h k (Nat.lt_succ_of_lt hk)), h n (Nat.lt_succ_self n)]
def zbt (x : Int32) (i : Nat) : Bool := x.toBitVec.getLsbD i
theorem zbt_or (x y : Int32) (i : Nat) : zbt (x ||| y) i = (zbt x i || zbt y i) := by
  unfold zbt
  rw [Int32.toBitVec_or, BitVec.getLsbD_or]
theorem zbt_and (x y : Int32) (i : Nat) : zbt (x &&& y) i = (zbt x i && zbt y i) := by
  unfold zbt
  rw [Int32.toBitVec_and, BitVec.getLsbD_and]
theorem zbt_1 : ∀ n, n < 31 → ∀ i, i < 32 → zbt ((1 : Int32) <<< (nI n &&& 31)) i = decide (i = n) := by decide +kernel
theorem zbt_big {x : Int32} {i : Nat} (h : 32 ≤ i) : zbt x i = false := BitVec.getLsbD_of_ge _ _ h
theorem zbt_0 (i : Nat) : zbt 0 i = false := by
  unfold zbt
  rw [Int32.toBitVec_zero]
  exact BitVec.getLsbD_zero
theorem zbt_ext {x y : Int32} (h : ∀ i, i < 32 → zbt x i = zbt y i) : x = y := by
  apply Int32.toBitVec_inj.mp
  exact BitVec.eq_of_getLsbD_eq h
theorem zbt_bs (f : Nat → Bool) : ∀ n, n ≤ 31 → ∀ i, i < 32 → zbt (bs f n) i = (decide (i < n) && f i)
  | 0, _, i, _ => by
    rw [bs, zbt_0]
    simp
  | n + 1, hn, i, hi => by
    have ih := zbt_bs f n (by omega) i hi
    rw [bs]
    by_cases hf : f n = true
    · rw [if_pos hf, zbt_or, ih, zbt_1 n (by omega) i hi]
      by_cases e : i = n
      · subst e
        simp [hf]
      · have : decide (i < n + 1) = decide (i < n) := by
          apply decide_eq_decide.mpr; omega
        rw [this]
        simp [e]
    · rw [if_neg hf, ih]
      by_cases e : i = n
      · subst e
        simp at hf
        simp [hf]
      · have : decide (i < n + 1) = decide (i < n) := by
          apply decide_eq_decide.mpr; omega
        rw [this]
theorem zsh_1 : ∀ p, p < 32 → ((nI p &&& 31).toBitVec.smod 32).toNat = p := by decide +kernel
theorem z_isin (x : Int32) (p : Nat) (hp : p < 31) : (((x >>> (nI p &&& 31)) &&& 1) = 1) ↔ zbt x p = true := by
  have e : zbt ((x >>> (nI p &&& 31)) &&& 1) 0 = zbt x p := by
    rw [zbt_and]
    unfold zbt
    rw [Int32.toBitVec_shiftRight, BitVec.sshiftRight', zsh_1 p (by omega), BitVec.getLsbD_sshiftRight]
    have h1 : (1 : Int32).toBitVec.getLsbD 0 = true := by decide
    rw [h1]
    simp
    intro; omega
  constructor
  · intro h
    rw [h] at e
    rw [← e]
    decide
  · intro h
    rw [h] at e
    apply zbt_ext
    intro i hi
    rcases Nat.eq_zero_or_pos i with rfl | h0
    · rw [e]; decide
    · rw [zbt_and]
      have h1 : ∀ i, i < 32 → 0 < i → zbt (1 : Int32) i = false := by decide +kernel
      rw [h1 i hi h0]
      simp
theorem zor0 (x : Int32) : x ||| 0 = x := by
  apply zbt_ext
  intro i _
  rw [zbt_or, zbt_0]
  simp
