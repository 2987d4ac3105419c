theorem goodTB {ws : List Cond} (hs : ∀ w ∈ TB, w ∈ ws) : GoodIn ws TB := fun w h => ⟨hs w h, good_of_word (List.mem_filter.mp h).2⟩
theorem gcV {ws : List Cond} (hs : ∀ w ∈ TB, w ∈ ws) {own CC : String} {idx : Nat} {y : MethodName} {c : Cond} (h1 : Cond.methodLink own idx y ∈ TB) (h2 : Cond.instanceMethod y ∈ TB ∧ Cond.selects CC y y ∈ TB ∧ Cond.initialized CC ∈ TB ∧ c ∈ TB) : GoodIn ws (wsV own idx CC y (c :: TB)) := by
  have g := goodTB hs
  intro w hw
  unfold wsV at hw
  rcases List.mem_append.mp hw with h | h
  · have : w = Cond.methodLink own idx y ∨ w = Cond.instanceMethod y ∨ w = Cond.selects CC y y ∨ w = Cond.initialized CC := by simpa using h
    rcases this with rfl | rfl | rfl | rfl
    · exact g _ h1
    · exact g _ h2.1
    · exact g _ h2.2.1
    · exact g _ h2.2.2.1
  · rcases List.mem_cons.mp h with rfl | h
    · exact g _ h2.2.2.2
    · exact g _ h
theorem gcS {ws : List Cond} (hs : ∀ w ∈ TB, w ∈ ws) {own : String} {idx : Nat} {y : MethodName} {c : Cond} (h1 : Cond.methodLink own idx y ∈ TB) (h2 : Cond.static y ∈ TB ∧ Cond.initialized y.cls ∈ TB ∧ c ∈ TB) : GoodIn ws (va_wsS own idx y (c :: TB)) := by
  have g := goodTB hs
  intro w hw
  unfold va_wsS at hw
  rcases List.mem_append.mp hw with h | h
  · have : w = Cond.methodLink own idx y ∨ w = Cond.static y ∨ w = Cond.initialized y.cls := by simpa using h
    rcases this with rfl | rfl | rfl
    · exact g _ h1
    · exact g _ h2.1
    · exact g _ h2.2.1
  · rcases List.mem_cons.mp h with rfl | h
    · exact g _ h2.2.2
    · exact g _ h
theorem hsT {c : Cond} : ∀ w ∈ TB, w ∈ c :: TB := fun _ h => List.mem_cons_of_mem _ h
abbrev MM : Type := Nat → Nat → Int32
/-- the classes and slots, the addresses of the cells, the classes of int[] and boolean[] -/
abbrev Gx : Type := va_G × (Nat → Nat) × ClassId × ClassId
def ga (g : Gx) : Nat → Nat := g.2.1
def mcp (M : MM) (q : Nat) (f : Nat → Int32) : MM := fun k => if k = q then f else M k
def mst (M : MM) (q j : Nat) (v : Int32) : MM := mcp M q (upd (M q) j v)
def fo_0 (g : Gx) (f : Nat → Int32) : List Value := [.ref (ga g 1), .ref (ga g 2), .ref (ga g 3), .ref (ga g 4), .ref (ga g 5), .ref (ga g 6), .ref (ga g 7), .ref (ga g 8), .ref (ga g 9)]
def fo_1 (g : Gx) (f : Nat → Int32) : List Value := [.ref (ga g 10)]
def fo_2 (g : Gx) (f : Nat → Int32) : List Value := [.ref (ga g 11), .ref (ga g 12), .ref (ga g 13), .int (f 3), .int (f 4)]
def fo_3 (g : Gx) (f : Nat → Int32) : List Value := [.ref (ga g 14), .ref (ga g 15), .ref (ga g 16), .ref (ga g 17), .ref (ga g 18), .int (f 5), .int (f 6), .int (f 7)]
def fo_4 (g : Gx) (f : Nat → Int32) : List Value := [.ref (ga g 19)]
def fo_5 (g : Gx) (f : Nat → Int32) : List Value := [.ref (ga g 20), .ref (ga g 21), .int (f 2), .int (f 3)]
def fo_6 (g : Gx) (f : Nat → Int32) : List Value := [.ref (ga g 22), .ref (ga g 23), .ref (ga g 24), .int (f 3)]
def fo_7 (g : Gx) (f : Nat → Int32) : List Value := [.ref (ga g 25), .int (f 1), .int (f 2)]
def fo_8 (g : Gx) (f : Nat → Int32) : List Value := [.ref (ga g 26), .ref (ga g 27), .ref (ga g 28)]
def fo_9 (g : Gx) (f : Nat → Int32) : List Value := [.int (f 0)]
def fo_25 (g : Gx) (f : Nat → Int32) : List Value := [.int (f 0), .ref (ga g 29)]
def fo_26 (g : Gx) (f : Nat → Int32) : List Value := [.int (f 0), .ref (ga g 30)]
def fo_31 (g : Gx) (f : Nat → Int32) : List Value := [.ref (ga g 32), .ref (ga g 33), .ref (ga g 34), .int (f 3), .int (f 4), .int (f 5), .ref (ga g 35), .ref (ga g 36), .ref (ga g 37), .ref (ga g 38), .ref (ga g 39), .ref (ga g 40), .ref (ga g 41), .ref (ga g 42), .int (f 14), .ref (ga g 43), .ref (ga g 44), .ref (ga g 45)]
/-- the cells of both systems: 0 .. 30 the class, 31 .. 45 the reference -/
def wd (g : Gx) (M : MM) : va_W := [
  (ga g 0, .inr (10, fo_0 g (M 0))),
  (ga g 1, .inr (7, fo_1 g (M 1))),
  (ga g 2, .inr (1, fo_2 g (M 2))),
  (ga g 3, .inr (9, fo_3 g (M 3))),
  (ga g 4, .inr (8, fo_4 g (M 4))),
  (ga g 5, .inr (4, fo_5 g (M 5))),
  (ga g 6, .inr (0, fo_6 g (M 6))),
  (ga g 7, .inr (5, fo_7 g (M 7))),
  (ga g 8, .inr (3, fo_8 g (M 8))),
  (ga g 9, .inr (2, fo_9 g (M 9))),
  (ga g 10, .inl (g.2.2.1, 141, .inl (M 10))),
  (ga g 11, .inl (g.2.2.1, 17, .inl (M 11))),
  (ga g 12, .inl (g.2.2.1, 170, .inl (M 12))),
  (ga g 13, .inl (g.2.2.1, 170, .inl (M 13))),
  (ga g 14, .inl (g.2.2.1, 32, .inl (M 14))),
  (ga g 15, .inl (g.2.2.1, 32, .inl (M 15))),
  (ga g 16, .inl (g.2.2.1, 112, .inl (M 16))),
  (ga g 17, .inl (g.2.2.1, 112, .inl (M 17))),
  (ga g 18, .inl (g.2.2.1, 112, .inl (M 18))),
  (ga g 19, .inl (g.2.2.1, 11, .inl (M 19))),
  (ga g 20, .inl (g.2.2.1, 16, .inl (M 20))),
  (ga g 21, .inl (g.2.2.1, 16, .inl (M 21))),
  (ga g 22, .inl (g.2.2.1, 20, .inl (M 22))),
  (ga g 23, .inl (g.2.2.1, 20, .inl (M 23))),
  (ga g 24, .inl (g.2.2.1, 20, .inl (M 24))),
  (ga g 25, .inr (6, fo_25 g (M 25))),
  (ga g 26, .inr (6, fo_26 g (M 26))),
  (ga g 27, .inl (g.2.2.1, 2, .inl (M 27))),
  (ga g 28, .inl (g.2.2.2, 2, .inl (M 28))),
  (ga g 29, .inl (g.2.2.1, 2820, .inl (M 29))),
  (ga g 30, .inl (g.2.2.1, 282, .inl (M 30))),
  (ga g 31, .inr (11, fo_31 g (M 31))),
  (ga g 32, .inl (g.2.2.1, 3243, .inl (M 32))),
  (ga g 33, .inl (g.2.2.1, 2, .inl (M 33))),
  (ga g 34, .inl (g.2.2.2, 2, .inl (M 34))),
  (ga g 35, .inl (g.2.2.1, 20, .inl (M 35))),
  (ga g 36, .inl (g.2.2.1, 20, .inl (M 36))),
  (ga g 37, .inl (g.2.2.1, 20, .inl (M 37))),
  (ga g 38, .inl (g.2.2.1, 17, .inl (M 38))),
  (ga g 39, .inl (g.2.2.1, 170, .inl (M 39))),
  (ga g 40, .inl (g.2.2.1, 170, .inl (M 40))),
  (ga g 41, .inl (g.2.2.1, 32, .inl (M 41))),
  (ga g 42, .inl (g.2.2.1, 32, .inl (M 42))),
  (ga g 43, .inl (g.2.2.1, 11, .inl (M 43))),
  (ga g 44, .inl (g.2.2.1, 16, .inl (M 44))),
  (ga g 45, .inl (g.2.2.1, 16, .inl (M 45)))]
def tyG (g : Gx) : List (ClassId × FieldType) := [(g.2.2.1, .int), (g.2.2.2, .boolean)]
def isI (q n : Nat) : Prop := (∀ (g : Gx) (M : MM), (wd g M)[q]? = some (ga g q, .inl (g.2.2.1, n, .inl (M q)))) ∧ ∀ (g : Gx) (M : MM) (f : Nat → Int32), (wd g M).set q (ga g q, .inl (g.2.2.1, n, .inl f)) = wd g (mcp M q f)
def isZ (q n : Nat) : Prop := (∀ (g : Gx) (M : MM), (wd g M)[q]? = some (ga g q, .inl (g.2.2.2, n, .inl (M q)))) ∧ ∀ (g : Gx) (M : MM) (f : Nat → Int32), (wd g M).set q (ga g q, .inl (g.2.2.2, n, .inl f)) = wd g (mcp M q f)
def isO (q ci : Nat) (fs : Gx → (Nat → Int32) → List Value) : Prop := (∀ (g : Gx) (M : MM), (wd g M)[q]? = some (ga g q, .inr (ci, fs g (M q)))) ∧ ∀ (g : Gx) (M : MM) (f : Nat → Int32), (wd g M).set q (ga g q, .inr (ci, fs g f)) = wd g (mcp M q f)
theorem I_10 : isI 10 141 := ⟨fun _ _ => rfl, fun _ _ _ => rfl⟩
theorem I_11 : isI 11 17 := ⟨fun _ _ => rfl, fun _ _ _ => rfl⟩
theorem I_12 : isI 12 170 := ⟨fun _ _ => rfl, fun _ _ _ => rfl⟩
theorem I_13 : isI 13 170 := ⟨fun _ _ => rfl, fun _ _ _ => rfl⟩
theorem I_14 : isI 14 32 := ⟨fun _ _ => rfl, fun _ _ _ => rfl⟩
theorem I_15 : isI 15 32 := ⟨fun _ _ => rfl, fun _ _ _ => rfl⟩
theorem I_16 : isI 16 112 := ⟨fun _ _ => rfl, fun _ _ _ => rfl⟩
theorem I_17 : isI 17 112 := ⟨fun _ _ => rfl, fun _ _ _ => rfl⟩
theorem I_18 : isI 18 112 := ⟨fun _ _ => rfl, fun _ _ _ => rfl⟩
theorem I_19 : isI 19 11 := ⟨fun _ _ => rfl, fun _ _ _ => rfl⟩
theorem I_20 : isI 20 16 := ⟨fun _ _ => rfl, fun _ _ _ => rfl⟩
theorem I_21 : isI 21 16 := ⟨fun _ _ => rfl, fun _ _ _ => rfl⟩
theorem I_22 : isI 22 20 := ⟨fun _ _ => rfl, fun _ _ _ => rfl⟩
theorem I_23 : isI 23 20 := ⟨fun _ _ => rfl, fun _ _ _ => rfl⟩
theorem I_24 : isI 24 20 := ⟨fun _ _ => rfl, fun _ _ _ => rfl⟩
theorem I_27 : isI 27 2 := ⟨fun _ _ => rfl, fun _ _ _ => rfl⟩
theorem I_29 : isI 29 2820 := ⟨fun _ _ => rfl, fun _ _ _ => rfl⟩
theorem I_30 : isI 30 282 := ⟨fun _ _ => rfl, fun _ _ _ => rfl⟩
theorem I_32 : isI 32 3243 := ⟨fun _ _ => rfl, fun _ _ _ => rfl⟩
theorem I_33 : isI 33 2 := ⟨fun _ _ => rfl, fun _ _ _ => rfl⟩
theorem I_35 : isI 35 20 := ⟨fun _ _ => rfl, fun _ _ _ => rfl⟩
theorem I_36 : isI 36 20 := ⟨fun _ _ => rfl, fun _ _ _ => rfl⟩
theorem I_37 : isI 37 20 := ⟨fun _ _ => rfl, fun _ _ _ => rfl⟩
theorem I_38 : isI 38 17 := ⟨fun _ _ => rfl, fun _ _ _ => rfl⟩
theorem I_39 : isI 39 170 := ⟨fun _ _ => rfl, fun _ _ _ => rfl⟩
theorem I_40 : isI 40 170 := ⟨fun _ _ => rfl, fun _ _ _ => rfl⟩
theorem I_41 : isI 41 32 := ⟨fun _ _ => rfl, fun _ _ _ => rfl⟩
theorem I_42 : isI 42 32 := ⟨fun _ _ => rfl, fun _ _ _ => rfl⟩
theorem I_43 : isI 43 11 := ⟨fun _ _ => rfl, fun _ _ _ => rfl⟩
theorem I_44 : isI 44 16 := ⟨fun _ _ => rfl, fun _ _ _ => rfl⟩
theorem I_45 : isI 45 16 := ⟨fun _ _ => rfl, fun _ _ _ => rfl⟩
theorem Z_28 : isZ 28 2 := ⟨fun _ _ => rfl, fun _ _ _ => rfl⟩
theorem Z_34 : isZ 34 2 := ⟨fun _ _ => rfl, fun _ _ _ => rfl⟩
theorem O_0 : isO 0 10 fo_0 := ⟨fun _ _ => rfl, fun _ _ _ => rfl⟩
theorem O_1 : isO 1 7 fo_1 := ⟨fun _ _ => rfl, fun _ _ _ => rfl⟩
theorem O_2 : isO 2 1 fo_2 := ⟨fun _ _ => rfl, fun _ _ _ => rfl⟩
theorem O_3 : isO 3 9 fo_3 := ⟨fun _ _ => rfl, fun _ _ _ => rfl⟩
theorem O_4 : isO 4 8 fo_4 := ⟨fun _ _ => rfl, fun _ _ _ => rfl⟩
theorem O_5 : isO 5 4 fo_5 := ⟨fun _ _ => rfl, fun _ _ _ => rfl⟩
theorem O_6 : isO 6 0 fo_6 := ⟨fun _ _ => rfl, fun _ _ _ => rfl⟩
theorem O_7 : isO 7 5 fo_7 := ⟨fun _ _ => rfl, fun _ _ _ => rfl⟩
theorem O_8 : isO 8 3 fo_8 := ⟨fun _ _ => rfl, fun _ _ _ => rfl⟩
theorem O_9 : isO 9 2 fo_9 := ⟨fun _ _ => rfl, fun _ _ _ => rfl⟩
theorem O_25 : isO 25 6 fo_25 := ⟨fun _ _ => rfl, fun _ _ _ => rfl⟩
theorem O_26 : isO 26 6 fo_26 := ⟨fun _ _ => rfl, fun _ _ _ => rfl⟩
theorem O_31 : isO 31 11 fo_31 := ⟨fun _ _ => rfl, fun _ _ _ => rfl⟩
theorem O_2_3 (g : Gx) (f : Nat → Int32) (v : Int32) : (fo_2 g f).set 3 (.int v) = fo_2 g (upd f 3 v) := rfl
theorem O_2_4 (g : Gx) (f : Nat → Int32) (v : Int32) : (fo_2 g f).set 4 (.int v) = fo_2 g (upd f 4 v) := rfl
theorem O_3_5 (g : Gx) (f : Nat → Int32) (v : Int32) : (fo_3 g f).set 5 (.int v) = fo_3 g (upd f 5 v) := rfl
theorem O_3_6 (g : Gx) (f : Nat → Int32) (v : Int32) : (fo_3 g f).set 6 (.int v) = fo_3 g (upd f 6 v) := rfl
theorem O_3_7 (g : Gx) (f : Nat → Int32) (v : Int32) : (fo_3 g f).set 7 (.int v) = fo_3 g (upd f 7 v) := rfl
theorem O_5_2 (g : Gx) (f : Nat → Int32) (v : Int32) : (fo_5 g f).set 2 (.int v) = fo_5 g (upd f 2 v) := rfl
theorem O_5_3 (g : Gx) (f : Nat → Int32) (v : Int32) : (fo_5 g f).set 3 (.int v) = fo_5 g (upd f 3 v) := rfl
theorem O_6_3 (g : Gx) (f : Nat → Int32) (v : Int32) : (fo_6 g f).set 3 (.int v) = fo_6 g (upd f 3 v) := rfl
theorem O_7_1 (g : Gx) (f : Nat → Int32) (v : Int32) : (fo_7 g f).set 1 (.int v) = fo_7 g (upd f 1 v) := rfl
theorem O_7_2 (g : Gx) (f : Nat → Int32) (v : Int32) : (fo_7 g f).set 2 (.int v) = fo_7 g (upd f 2 v) := rfl
theorem O_9_0 (g : Gx) (f : Nat → Int32) (v : Int32) : (fo_9 g f).set 0 (.int v) = fo_9 g (upd f 0 v) := rfl
theorem O_25_0 (g : Gx) (f : Nat → Int32) (v : Int32) : (fo_25 g f).set 0 (.int v) = fo_25 g (upd f 0 v) := rfl
theorem O_26_0 (g : Gx) (f : Nat → Int32) (v : Int32) : (fo_26 g f).set 0 (.int v) = fo_26 g (upd f 0 v) := rfl
theorem O_31_3 (g : Gx) (f : Nat → Int32) (v : Int32) : (fo_31 g f).set 3 (.int v) = fo_31 g (upd f 3 v) := rfl
theorem O_31_4 (g : Gx) (f : Nat → Int32) (v : Int32) : (fo_31 g f).set 4 (.int v) = fo_31 g (upd f 4 v) := rfl
theorem O_31_5 (g : Gx) (f : Nat → Int32) (v : Int32) : (fo_31 g f).set 5 (.int v) = fo_31 g (upd f 5 v) := rfl
theorem O_31_14 (g : Gx) (f : Nat → Int32) (v : Int32) : (fo_31 g f).set 14 (.int v) = fo_31 g (upd f 14 v) := rfl
theorem wd_ad (g : Gx) (M M1 : MM) : (wd g M).map (fun q => q.1) = (wd g M1).map (fun q => q.1) := rfl
theorem va_D_ad {A : Nat → Prop} {w1 w2 : va_W} (e : w1.map (fun q => q.1) = w2.map (fun q => q.1)) (h : va_D A w1) : va_D A w2 := by
  have to : ∀ (k : Nat) (q : Nat × va_E), w2[k]? = some q → ∃ q1 : Nat × va_E, w1[k]? = some q1 ∧ q1.1 = q.1 := by
    intro k q hq
    have h1 : (w2.map (fun q => q.1))[k]? = some q.1 := by rw [List.getElem?_map, hq]; rfl
    rw [← e, List.getElem?_map] at h1
    cases hw : w1[k]? with
    | none => rw [hw] at h1; cases h1
    | some q1 => rw [hw] at h1; exact ⟨q1, rfl, Option.some.inj h1⟩
  refine ⟨fun i j p q hp hq hpq => ?_, fun k q hk => ?_⟩
  · obtain ⟨p1, a1, b1⟩ := to i p hp
    obtain ⟨q1, a2, b2⟩ := to j q hq
    exact h.1 i j p1 q1 a1 a2 (by rw [b1, b2]; exact hpq)
  · obtain ⟨q1, a1, b1⟩ := to k q hk
    rw [← b1]
    exact h.2 k q1 a1
theorem wd_D {A : Nat → Prop} {g : Gx} {M : MM} (h : va_D A (wd g M)) (M1 : MM) : va_D A (wd g M1) := va_D_ad (wd_ad g M M1) h
theorem va_A_ad {w1 w2 : va_W} {sz q : Nat} (e : w1.map (fun q => q.1) = w2.map (fun q => q.1)) (h : va_A w1 sz q) : va_A w2 sz q := by
  rcases h with ⟨k, x, h⟩ | h
  · have h1 : (w1.map (fun q => q.1))[k]? = some q := by rw [List.getElem?_map, h]; rfl
    rw [e, List.getElem?_map] at h1
    cases hw : w2[k]? with
    | none => rw [hw] at h1; cases h1
    | some q1 =>
      rw [hw] at h1
      obtain ⟨q2, x2⟩ := q1
      have h2 : q2 = q := Option.some.inj h1
      subst h2
      exact Or.inl ⟨k, x2, hw⟩
  · exact Or.inr h
abbrev Cx : Type := Program × Launch × Env × Room × State × MethodId × Array Value × List Frame × Method × Code × (Nat → Prop) × Nat × Nat × Nat × (State → Prop)
/-- the machine at pc with the locals lv and the stack st, the cells holding M, comes to the end that x tells -/
def zJ (g : Gx) (x : Cx) (M : MM) (pc : Nat) (lv : List (Nat × Value)) (st : List Value) : Prop := match x with
  | (p, l, e, R, s, m, args, below, meth, c, A, nL, cells, slots, Q) => ∀ (H : Heap) (locs : List Loc) (ls : Array Slot), va_P g.1 vwCl (wd g M) H → va_S A s.heap H locs → lv_has ls nL lv → W p l e R s m args below meth c H locs cells slots Q (F0 m pc ls st)
/-- what is so all the time in a method: its machine, code, words, room -/
def zC (g : Gx) (x : Cx) (l0 : Launch) (own : String) (cc : ByteArray) (ws : List Cond) (rm : Room) (n0 : Nat) : Prop := match x with
  | (p, l, _, R, s, m, args, _, _, c, A, nL, cells, slots, _) => l = l0 ∧ R = rm ∧ nL = n0 ∧ p.tables.exec = Jvm.exec ∧ c.code = cc ∧ c.maxLocals = nL ∧ s.vm.findClass own = some m.cls ∧ (∀ w ∈ ws, w.before args s = true) ∧ va_K g.1 vwCl (tyG g) s ∧ (∀ M : MM, va_D A (wd g M)) ∧ (∀ q, s.heap.size ≤ q → A q) ∧ cells ≤ R.cells ∧ slots ≤ R.slots
def zB (g : Gx) (u : MM) (t : State) : Prop := va_P g.1 vwCl (wd g u) t.heap
def zRi (g : Gx) (x : Cx) (ty : FieldType) (r : Int32) (M' : MM) : Prop := match x with
  | (_, _, _, _, s, _, args, below, meth, _, A, _, cells, slots, Q) => meth.sig.returnType = some ty ∧ meth.locks = false ∧ cells = 0 ∧ slots = 0 ∧ Q = MQ below (va_Qi (fun r1 (u : MM) => r1 = r ∧ u = M') (zB g) A) args s 0 0 A
def zRv (g : Gx) (x : Cx) (M' : MM) : Prop := match x with
  | (_, _, _, _, s, _, args, below, meth, _, A, _, cells, slots, Q) => meth.sig.returnType = none ∧ meth.locks = false ∧ cells = 0 ∧ slots = 0 ∧ Q = MQ below (va_Qv (fun (u : MM) => u = M') (zB g) A) args s 0 0 A
def zU (g : Gx) (M : MM) (sz : Nat) : State → Prop := fun U => U.heap.size = sz ∧ va_P g.1 vwCl (wd g M) U.heap ∧ va_K g.1 vwCl (tyG g) U ∧ va_D (fun _ => True) (wd g M)
/-- a method's contract: with the arguments As and the cells M it answers r (nothing), and the cells hold M' -/
def zMi (l : Launch) (y : MethodName) (ws : List Cond) (rm : Room) (As : List Value) (g : Gx) (M : MM) (r : Int32) (M' : MM) : Prop := ∀ sz : Nat, Met l y ws rm (va_Pc As (zU g M sz)) (va_Qi (fun r1 (u : MM) => r1 = r ∧ u = M') (zB g) (va_A (wd g M) sz)) 0 0 (va_A (wd g M) sz)
def zMv (l : Launch) (y : MethodName) (ws : List Cond) (rm : Room) (As : List Value) (g : Gx) (M : MM) (M' : MM) : Prop := ∀ sz : Nat, Met l y ws rm (va_Pc As (zU g M sz)) (va_Qv (fun (u : MM) => u = M') (zB g) (va_A (wd g M) sz)) 0 0 (va_A (wd g M) sz)
abbrev rmm (f lo : Nat) : Room := { frames := f, cells := 0, slots := 0, locals := lo }
theorem zU_blind (As : List Value) (g : Gx) (M : MM) (sz : Nat) : FrameBlind (va_Pc As (zU g M sz)) := by
  intro a U gg mk q
  obtain ⟨q0, q1, qP, qK, qD⟩ := q
  exact ⟨q0, q1, qP, va_K.moved (u := U) (U := U.calling gg mk a) (Vm.Alike.refl U.vm) qK, qD⟩
set_option maxHeartbeats 4000000 in
theorem zMi_of {l : Launch} {y : MethodName} {ws ws' : List Cond} {rm : Room} {As : List Value} {g : Gx} {M : MM} {r : Int32} {M' : MM} {cc : ByteArray} {maxL : Nat} (ty : FieldType) (hy : plainName y.cls = true) (hw : ws = Cond.code y cc maxL (some ty) :: ws') (hn : (lg_sl As).length ≤ maxL) (hrc : rm.cells = 0) (hrs : rm.slots = 0)
    (body : ∀ x : Cx, zC g x l y.cls cc ws rm maxL → zRi g x ty r M' → zJ g x M 0 (lv_args 0 As) []) : zMi l y ws rm As g M r M' := by
  intro sz
  refine Met.ofW (cc := cc) (maxL := maxL) (ret := some ty) hy hw ?_
  intro p e s m args below meth c s₁ B hml hv
  obtain ⟨rfl, hsz, hP, hK, hD0⟩ := hv
  subst hsz
  have hl := lv_entry As (n := maxL) hn
  rw [lg_entry_eq]
  generalize (lg_sl As ++ List.replicate (maxL - (lg_sl As).length) Slot.unset).toArray = ls at hl ⊢
  exact body (p, l, e, (headSpec ws rm).room, s, m, As.toArray, below, meth, c, va_A (wd g M) s.heap.size, maxL, 0, 0, _) ⟨rfl, rfl, rfl, B.exec, B.bytes, hml, findClass_of_methodNamed B.named, atoms_spec (ws := ws) B.pre, hK, fun M1 => wd_D hD0.self M1, fun q h => Or.inr h, Nat.zero_le _, Nat.zero_le _⟩ ⟨B.returns, B.notSynchronized, rfl, rfl, rfl⟩ s.heap [] ls hP va_S.rf hl
set_option maxHeartbeats 4000000 in
theorem zMv_of {l : Launch} {y : MethodName} {ws ws' : List Cond} {rm : Room} {As : List Value} {g : Gx} {M : MM} {M' : MM} {cc : ByteArray} {maxL : Nat} (hy : plainName y.cls = true) (hw : ws = Cond.code y cc maxL none :: ws') (hn : (lg_sl As).length ≤ maxL) (hrc : rm.cells = 0) (hrs : rm.slots = 0)
    (body : ∀ x : Cx, zC g x l y.cls cc ws rm maxL → zRv g x M' → zJ g x M 0 (lv_args 0 As) []) : zMv l y ws rm As g M M' := by
  intro sz
  refine Met.ofW (cc := cc) (maxL := maxL) (ret := none) hy hw ?_
  intro p e s m args below meth c s₁ B hml hv
  obtain ⟨rfl, hsz, hP, hK, hD0⟩ := hv
  subst hsz
  have hl := lv_entry As (n := maxL) hn
  rw [lg_entry_eq]
  generalize (lg_sl As ++ List.replicate (maxL - (lg_sl As).length) Slot.unset).toArray = ls at hl ⊢
  exact body (p, l, e, (headSpec ws rm).room, s, m, As.toArray, below, meth, c, va_A (wd g M) s.heap.size, maxL, 0, 0, _) ⟨rfl, rfl, rfl, B.exec, B.bytes, hml, findClass_of_methodNamed B.named, atoms_spec (ws := ws) B.pre, hK, fun M1 => wd_D hD0.self M1, fun q h => Or.inr h, Nat.zero_le _, Nat.zero_le _⟩ ⟨B.returns, B.notSynchronized, rfl, rfl, rfl⟩ s.heap [] ls hP va_S.rf hl
def lvg (lv : List (Nat × Value)) (i : Nat) : Option Value := (lv.find? (fun q => q.1 == i)).map (fun q => q.2)
theorem lvg_at {ls : Array Slot} {nL : Nat} {lv : List (Nat × Value)} (h : lv_has ls nL lv) {i : Nat} {v : Value} (hk : lvg lv i = some v) : ls[i]? = some (.val v) := by
  unfold lvg at hk
  cases hf : lv.find? (fun q => q.1 == i) with
  | none => rw [hf] at hk; cases hk
  | some q =>
    rw [hf] at hk
    obtain ⟨j, w⟩ := q
    have h1 := List.find?_some hf
    have h2 := List.mem_of_find?_eq_some hf
    have h3 : j = i := by simpa using h1
    have h4 : w = v := Option.some.inj hk
    subst h3; subst h4
    exact h.2.2 _ h2
def lvs (lv : List (Nat × Value)) (i : Nat) (v : Value) : List (Nat × Value) := (i, v) :: lv.filter (fun q => !(q.1 == i) && !(q.1 + 1 == i && q.2.category == 2))

/-! the words of the functions that the methods are -/
def z_ld (M : MM) (q n : Nat) (i : Int32) : Option Int32 := if i < 0 ∨ n ≤ i.toNatClampNeg then none else some (M q i.toNatClampNeg)
def z_sto (M : MM) (q n : Nat) (i v : Int32) : Option MM := if i < 0 ∨ n ≤ i.toNatClampNeg then none else some (mst M q i.toNatClampNeg v)
def z_stz (M : MM) (q n : Nat) (i v : Int32) : Option MM := if v = 0 ∨ v = 1 then (if i < 0 ∨ n ≤ i.toNatClampNeg then none else some (mst M q i.toNatClampNeg v)) else none
def z_stf (M : MM) (q j : Nat) (v : Int32) : Option MM := some (mst M q j v)
def z_stb (M : MM) (q j : Nat) (v : Int32) : Option MM := if v = 0 ∨ v = 1 then some (mst M q j v) else none
def z_div (u v : Int32) : Option Int32 := if v = 0 then none else some (u / v)
def z_rem (u v : Int32) : Option Int32 := if v = 0 then none else some (u - u / v * v)
def z_rml (u v : Int64) : Option Int64 := if v = 0 then none else some (u - u / v * v)
def z_rz (v : Int32) (M : MM) : Option (Int32 × MM) := if v = 0 ∨ v = 1 then some (v, M) else none
def z_cpy (M : MM) (q0 n : Nat) (sp : Int32) (q1 m0 : Nat) (dp z : Int32) : Option MM := if ¬ sp < 0 ∧ ¬ dp < 0 ∧ ¬ z < 0 ∧ sp.toNatClampNeg + z.toNatClampNeg ≤ n ∧ dp.toNatClampNeg + z.toNatClampNeg ≤ m0 then some (mcp M q1 (va_cpy (M q0) (M q1) sp.toNatClampNeg dp.toNatClampNeg z.toNatClampNeg)) else none
theorem e_bd {α β : Type} {o : Option α} {f : α → Option β} {b : β} (h : o.bind f = some b) : ∃ a, o = some a ∧ f a = some b := by
  cases o with
  | none => cases h
  | some a => exact ⟨a, rfl, h⟩
theorem e_t {α : Type} {c : Prop} [Decidable c] {a b r : α} (hc : c) (h : (if c then a else b) = r) : a = r := by rw [if_pos hc] at h; exact h
theorem e_f {α : Type} {c : Prop} [Decidable c] {a b r : α} (hc : ¬ c) (h : (if c then a else b) = r) : b = r := by rw [if_neg hc] at h; exact h
theorem e_ld {M : MM} {q n : Nat} {i v : Int32} (h : z_ld M q n i = some v) : ¬ (i < 0 ∨ n ≤ i.toNatClampNeg) ∧ M q i.toNatClampNeg = v := by
  unfold z_ld at h
  by_cases c : i < 0 ∨ n ≤ i.toNatClampNeg
  · rw [if_pos c] at h; cases h
  · rw [if_neg c] at h; exact ⟨c, Option.some.inj h⟩
theorem e_sto {M M1 : MM} {q n : Nat} {i v : Int32} (h : z_sto M q n i v = some M1) : ¬ (i < 0 ∨ n ≤ i.toNatClampNeg) ∧ mst M q i.toNatClampNeg v = M1 := by
  unfold z_sto at h
  by_cases c : i < 0 ∨ n ≤ i.toNatClampNeg
  · rw [if_pos c] at h; cases h
  · rw [if_neg c] at h; exact ⟨c, Option.some.inj h⟩
theorem e_stz {M M1 : MM} {q n : Nat} {i v : Int32} (h : z_stz M q n i v = some M1) : (v = 0 ∨ v = 1) ∧ ¬ (i < 0 ∨ n ≤ i.toNatClampNeg) ∧ mst M q i.toNatClampNeg v = M1 := by
  unfold z_stz at h
  by_cases z : v = 0 ∨ v = 1
  · rw [if_pos z] at h
    by_cases c : i < 0 ∨ n ≤ i.toNatClampNeg
    · rw [if_pos c] at h; cases h
    · rw [if_neg c] at h; exact ⟨z, c, Option.some.inj h⟩
  · rw [if_neg z] at h; cases h
theorem e_stf {M M1 : MM} {q j : Nat} {v : Int32} (h : z_stf M q j v = some M1) : mst M q j v = M1 := Option.some.inj h
theorem e_stb {M M1 : MM} {q j : Nat} {v : Int32} (h : z_stb M q j v = some M1) : (v = 0 ∨ v = 1) ∧ mst M q j v = M1 := by
  unfold z_stb at h
  by_cases z : v = 0 ∨ v = 1
  · rw [if_pos z] at h; exact ⟨z, Option.some.inj h⟩
  · rw [if_neg z] at h; cases h
theorem e_div {u v w : Int32} (h : z_div u v = some w) : ¬ v = 0 ∧ u / v = w := by
  unfold z_div at h
  by_cases z : v = 0
  · rw [if_pos z] at h; cases h
  · rw [if_neg z] at h; exact ⟨z, Option.some.inj h⟩
theorem e_rem {u v w : Int32} (h : z_rem u v = some w) : ¬ v = 0 ∧ u - u / v * v = w := by
  unfold z_rem at h
  by_cases z : v = 0
  · rw [if_pos z] at h; cases h
  · rw [if_neg z] at h; exact ⟨z, Option.some.inj h⟩
theorem e_rml {u v w : Int64} (h : z_rml u v = some w) : ¬ v = 0 ∧ u - u / v * v = w := by
  unfold z_rml at h
  by_cases z : v = 0
  · rw [if_pos z] at h; cases h
  · rw [if_neg z] at h; exact ⟨z, Option.some.inj h⟩
theorem e_rz {v r : Int32} {M M1 : MM} (h : z_rz v M = some (r, M1)) : (v = 0 ∨ v = 1) ∧ v = r ∧ M = M1 := by
  unfold z_rz at h
  by_cases z : v = 0 ∨ v = 1
  · rw [if_pos z] at h
    have h2 := Option.some.inj h
    exact ⟨z, congrArg Prod.fst h2, congrArg Prod.snd h2⟩
  · rw [if_neg z] at h; cases h
def z_rzp (v : Int32) : Option Int32 := if v = 0 ∨ v = 1 then some v else none
theorem e_rzp {v r : Int32} (h : z_rzp v = some r) : (v = 0 ∨ v = 1) ∧ v = r := by
  unfold z_rzp at h
  by_cases z : v = 0 ∨ v = 1
  · rw [if_pos z] at h; exact ⟨z, Option.some.inj h⟩
  · rw [if_neg z] at h; cases h
theorem e_rz2 {v : Int32} {M : MM} {s : Int32 × MM} (h : z_rz v M = some s) : (v = 0 ∨ v = 1) ∧ (v, M) = s := by
  obtain ⟨r, M1⟩ := s
  obtain ⟨a, rfl, rfl⟩ := e_rz h
  exact ⟨a, rfl⟩
theorem e_ri {v r : Int32} {M M1 : MM} (h : some (v, M) = some (r, M1)) : v = r ∧ M = M1 := by
  have h2 := Option.some.inj h
  exact ⟨congrArg Prod.fst h2, congrArg Prod.snd h2⟩
theorem e_cpy {M M1 : MM} {q0 n q1 m0 : Nat} {sp dp z : Int32} (h : z_cpy M q0 n sp q1 m0 dp z = some M1) : (¬ sp < 0 ∧ ¬ dp < 0 ∧ ¬ z < 0 ∧ sp.toNatClampNeg + z.toNatClampNeg ≤ n ∧ dp.toNatClampNeg + z.toNatClampNeg ≤ m0) ∧ mcp M q1 (va_cpy (M q0) (M q1) sp.toNatClampNeg dp.toNatClampNeg z.toNatClampNeg) = M1 := by
  unfold z_cpy at h
  split at h
  · rename_i c; exact ⟨c, Option.some.inj h⟩
  · cases h

section ZROWS
variable {g : Gx} {x : Cx} {M : MM} {pc : Nat} {lv : List (Nat × Value)} {st : List Value} {l : Launch} {own : String} {cc : ByteArray} {ws : List Cond} {rm : Room} {n0 : Nat}
theorem z_iconst {n : Int} (v : Int32) (C : zC g x l own cc ws rm n0) (hd : decode cc pc = .ok (.iconst n, 1)) (hv : Int32.ofInt n = v) (k : zJ g x M (pc + 1) lv (.int v :: st)) : zJ g x M pc lv (st) := by
  obtain ⟨p, l, e, R, s, m, args, below, meth, c, A, nL, cells, slots, Q⟩ := x
  obtain ⟨rfl, rfl, rfl, hx, hb, hml, hown, hts, hK, hD, hA, hc, hs⟩ := C
  intro H locs ls hP hS hl
  exact lv_iconst hx hb hd hv (k H locs ls hP hS hl)
theorem z_bipush {n : Int} (v : Int32) (C : zC g x l own cc ws rm n0) (hd : decode cc pc = .ok (.bipush n, 2)) (hv : (Int8.ofInt n).toInt32 = v) (k : zJ g x M (pc + 2) lv (.int v :: st)) : zJ g x M pc lv (st) := by
  obtain ⟨p, l, e, R, s, m, args, below, meth, c, A, nL, cells, slots, Q⟩ := x
  obtain ⟨rfl, rfl, rfl, hx, hb, hml, hown, hts, hK, hD, hA, hc, hs⟩ := C
  intro H locs ls hP hS hl
  exact lv_bipush hx hb hd hv (k H locs ls hP hS hl)
theorem z_sipush {n : Int} (v : Int32) (C : zC g x l own cc ws rm n0) (hd : decode cc pc = .ok (.sipush n, 3)) (hv : (Int16.ofInt n).toInt32 = v) (k : zJ g x M (pc + 3) lv (.int v :: st)) : zJ g x M pc lv (st) := by
  obtain ⟨p, l, e, R, s, m, args, below, meth, c, A, nL, cells, slots, Q⟩ := x
  obtain ⟨rfl, rfl, rfl, hx, hb, hml, hown, hts, hK, hD, hA, hc, hs⟩ := C
  intro H locs ls hP hS hl
  exact lv_sipush hx hb hd hv (k H locs ls hP hS hl)
theorem z_lconst {n : Fin 2} (v : Int64) (C : zC g x l own cc ws rm n0) (hd : decode cc pc = .ok (.lconst n, 1)) (hv : Int64.ofNat (n : Nat) = v) (k : zJ g x M (pc + 1) lv (.long v :: st)) : zJ g x M pc lv (st) := by
  obtain ⟨p, l, e, R, s, m, args, below, meth, c, A, nL, cells, slots, Q⟩ := x
  obtain ⟨rfl, rfl, rfl, hx, hb, hml, hown, hts, hK, hD, hA, hc, hs⟩ := C
  intro H locs ls hP hS hl
  exact lv_lconst hx hb hd hv (k H locs ls hP hS hl)
theorem z_ldc {index : Nat} {v : Int32} (C : zC g x l own cc ws rm n0) (hw : Cond.constant own index v ∈ ws) (hd : decode cc pc = .ok (.ldc index, 2)) (k : zJ g x M (pc + 2) lv (.int v :: st)) : zJ g x M pc lv (st) := by
  obtain ⟨p, l, e, R, s, m, args, below, meth, c, A, nL, cells, slots, Q⟩ := x
  obtain ⟨rfl, rfl, rfl, hx, hb, hml, hown, hts, hK, hD, hA, hc, hs⟩ := C
  intro H locs ls hP hS hl
  exact lv_ldc hx hb hown (hts _ hw) hd (k H locs ls hP hS hl)
theorem z_ldc2 {index : Nat} {v : Int64} (C : zC g x l own cc ws rm n0) (hw : Cond.constantLong own index v ∈ ws) (hd : decode cc pc = .ok (.ldc2_w index, 3)) (k : zJ g x M (pc + 3) lv (.long v :: st)) : zJ g x M pc lv (st) := by
  obtain ⟨p, l, e, R, s, m, args, below, meth, c, A, nL, cells, slots, Q⟩ := x
  obtain ⟨rfl, rfl, rfl, hx, hb, hml, hown, hts, hK, hD, hA, hc, hs⟩ := C
  intro H locs ls hP hS hl
  exact lv_ldc2 hx hb hown (hts _ hw) hd (k H locs ls hP hS hl)
theorem z_iload_n {i : Fin 4} {u : Int32} (C : zC g x l own cc ws rm n0) (hd : decode cc pc = .ok (.iload_n i, 1)) (hg : lvg lv (i : Nat) = some (.int u)) (k : zJ g x M (pc + 1) lv (.int u :: st)) : zJ g x M pc lv (st) := by
  obtain ⟨p, l, e, R, s, m, args, below, meth, c, A, nL, cells, slots, Q⟩ := x
  obtain ⟨rfl, rfl, rfl, hx, hb, hml, hown, hts, hK, hD, hA, hc, hs⟩ := C
  intro H locs ls hP hS hl
  exact lv_iload_n hx hb hd rfl (lvg_at hl hg) (k H locs ls hP hS hl)
theorem z_iload {i : Nat} {u : Int32} (C : zC g x l own cc ws rm n0) (hd : decode cc pc = .ok (.iload i, 2)) (hg : lvg lv i = some (.int u)) (k : zJ g x M (pc + 2) lv (.int u :: st)) : zJ g x M pc lv (st) := by
  obtain ⟨p, l, e, R, s, m, args, below, meth, c, A, nL, cells, slots, Q⟩ := x
  obtain ⟨rfl, rfl, rfl, hx, hb, hml, hown, hts, hK, hD, hA, hc, hs⟩ := C
  intro H locs ls hP hS hl
  exact lv_iload hx hb hd (lvg_at hl hg) (k H locs ls hP hS hl)
theorem z_aload_n {i : Fin 4} {u : Nat} (C : zC g x l own cc ws rm n0) (hd : decode cc pc = .ok (.aload_n i, 1)) (hg : lvg lv (i : Nat) = some (.ref u)) (k : zJ g x M (pc + 1) lv (.ref u :: st)) : zJ g x M pc lv (st) := by
  obtain ⟨p, l, e, R, s, m, args, below, meth, c, A, nL, cells, slots, Q⟩ := x
  obtain ⟨rfl, rfl, rfl, hx, hb, hml, hown, hts, hK, hD, hA, hc, hs⟩ := C
  intro H locs ls hP hS hl
  exact lv_aload_n hx hb hd rfl (lvg_at hl hg) (k H locs ls hP hS hl)
theorem z_aload {i : Nat} {u : Nat} (C : zC g x l own cc ws rm n0) (hd : decode cc pc = .ok (.aload i, 2)) (hg : lvg lv i = some (.ref u)) (k : zJ g x M (pc + 2) lv (.ref u :: st)) : zJ g x M pc lv (st) := by
  obtain ⟨p, l, e, R, s, m, args, below, meth, c, A, nL, cells, slots, Q⟩ := x
  obtain ⟨rfl, rfl, rfl, hx, hb, hml, hown, hts, hK, hD, hA, hc, hs⟩ := C
  intro H locs ls hP hS hl
  exact lv_aload hx hb hd (lvg_at hl hg) (k H locs ls hP hS hl)
theorem z_lload_n {i : Fin 4} {u : Int64} (C : zC g x l own cc ws rm n0) (hd : decode cc pc = .ok (.lload_n i, 1)) (hg : lvg lv (i : Nat) = some (.long u)) (k : zJ g x M (pc + 1) lv (.long u :: st)) : zJ g x M pc lv (st) := by
  obtain ⟨p, l, e, R, s, m, args, below, meth, c, A, nL, cells, slots, Q⟩ := x
  obtain ⟨rfl, rfl, rfl, hx, hb, hml, hown, hts, hK, hD, hA, hc, hs⟩ := C
  intro H locs ls hP hS hl
  exact lv_lload_n hx hb hd rfl (lvg_at hl hg) (k H locs ls hP hS hl)
theorem z_lload {i : Nat} {u : Int64} (C : zC g x l own cc ws rm n0) (hd : decode cc pc = .ok (.lload i, 2)) (hg : lvg lv i = some (.long u)) (k : zJ g x M (pc + 2) lv (.long u :: st)) : zJ g x M pc lv (st) := by
  obtain ⟨p, l, e, R, s, m, args, below, meth, c, A, nL, cells, slots, Q⟩ := x
  obtain ⟨rfl, rfl, rfl, hx, hb, hml, hown, hts, hK, hD, hA, hc, hs⟩ := C
  intro H locs ls hP hS hl
  exact lv_lload hx hb hd (lvg_at hl hg) (k H locs ls hP hS hl)
theorem z_istore_n {i : Fin 4} {u : Int32} (lv2 : List (Nat × Value)) (C : zC g x l own cc ws rm n0) (hd : decode cc pc = .ok (.istore_n i, 1)) (hn : (i : Nat) < n0) (hg : lvs lv (i : Nat) (.int u) = lv2) (k : zJ g x M (pc + 1) lv2 (st)) : zJ g x M pc lv (.int u :: st) := by
  obtain ⟨p, l, e, R, s, m, args, below, meth, c, A, nL, cells, slots, Q⟩ := x
  obtain ⟨rfl, rfl, rfl, hx, hb, hml, hown, hts, hK, hD, hA, hc, hs⟩ := C
  intro H locs ls hP hS hl
  exact lv_istore_n hx hb hd rfl hl hn hg (fun ls2 hl2 => k H locs ls2 hP hS hl2)
theorem z_istore {i : Nat} {u : Int32} (lv2 : List (Nat × Value)) (C : zC g x l own cc ws rm n0) (hd : decode cc pc = .ok (.istore i, 2)) (hn : i < n0) (hg : lvs lv i (.int u) = lv2) (k : zJ g x M (pc + 2) lv2 (st)) : zJ g x M pc lv (.int u :: st) := by
  obtain ⟨p, l, e, R, s, m, args, below, meth, c, A, nL, cells, slots, Q⟩ := x
  obtain ⟨rfl, rfl, rfl, hx, hb, hml, hown, hts, hK, hD, hA, hc, hs⟩ := C
  intro H locs ls hP hS hl
  exact lv_istore hx hb hd hl hn hg (fun ls2 hl2 => k H locs ls2 hP hS hl2)
theorem z_astore_n {i : Fin 4} {u : Nat} (lv2 : List (Nat × Value)) (C : zC g x l own cc ws rm n0) (hd : decode cc pc = .ok (.astore_n i, 1)) (hn : (i : Nat) < n0) (hg : lvs lv (i : Nat) (.ref u) = lv2) (k : zJ g x M (pc + 1) lv2 (st)) : zJ g x M pc lv (.ref u :: st) := by
  obtain ⟨p, l, e, R, s, m, args, below, meth, c, A, nL, cells, slots, Q⟩ := x
  obtain ⟨rfl, rfl, rfl, hx, hb, hml, hown, hts, hK, hD, hA, hc, hs⟩ := C
  intro H locs ls hP hS hl
  exact lv_astore_n hx hb hd rfl hl hn hg (fun ls2 hl2 => k H locs ls2 hP hS hl2)
theorem z_astore {i : Nat} {u : Nat} (lv2 : List (Nat × Value)) (C : zC g x l own cc ws rm n0) (hd : decode cc pc = .ok (.astore i, 2)) (hn : i < n0) (hg : lvs lv i (.ref u) = lv2) (k : zJ g x M (pc + 2) lv2 (st)) : zJ g x M pc lv (.ref u :: st) := by
  obtain ⟨p, l, e, R, s, m, args, below, meth, c, A, nL, cells, slots, Q⟩ := x
  obtain ⟨rfl, rfl, rfl, hx, hb, hml, hown, hts, hK, hD, hA, hc, hs⟩ := C
  intro H locs ls hP hS hl
  exact lv_astore hx hb hd hl hn hg (fun ls2 hl2 => k H locs ls2 hP hS hl2)
theorem z_iinc {i : Nat} {n : Int} {u v : Int32} (lv2 : List (Nat × Value)) (C : zC g x l own cc ws rm n0) (hd : decode cc pc = .ok (.iinc i n, 3)) (hk : lvg lv i = some (.int u)) (hv : u + Int32.ofInt n = v) (hn : i < n0) (hg : lvs lv i (.int v) = lv2) (k : zJ g x M (pc + 3) lv2 st) : zJ g x M pc lv st := by
  obtain ⟨p, l, e, R, s, m, args, below, meth, c, A, nL, cells, slots, Q⟩ := x
  obtain ⟨rfl, rfl, rfl, hx, hb, hml, hown, hts, hK, hD, hA, hc, hs⟩ := C
  intro H locs ls hP hS hl
  have hm : ∃ j : Nat, lv[j]? = some (i, Value.int u) := by
    unfold lvg at hk
    cases hf : lv.find? (fun q => q.1 == i) with
    | none => rw [hf] at hk; cases hk
    | some q =>
      rw [hf] at hk
      obtain ⟨j, w⟩ := q
      have h1 := List.find?_some hf
      have h2 := List.mem_of_find?_eq_some hf
      have h3 : j = i := by simpa using h1
      have h4 : w = Value.int u := Option.some.inj hk
      subst h3; subst h4
      exact List.getElem?_of_mem h2
  obtain ⟨j, hj⟩ := hm
  exact lv_iinc hx hb hd hl hj hv hn hg (fun ls2 hl2 => k H locs ls2 hP hS hl2)
theorem z_iadd {u v : Int32} (C : zC g x l own cc ws rm n0) (hd : decode cc pc = .ok (.iadd, 1)) (k : zJ g x M (pc + 1) lv (.int (u + v) :: st)) : zJ g x M pc lv (.int v :: .int u :: st) := by
  obtain ⟨p, l, e, R, s, m, args, below, meth, c, A, nL, cells, slots, Q⟩ := x
  obtain ⟨rfl, rfl, rfl, hx, hb, hml, hown, hts, hK, hD, hA, hc, hs⟩ := C
  intro H locs ls hP hS hl
  exact lv_iadd hx hb hd (k H locs ls hP hS hl)
theorem z_isub {u v : Int32} (C : zC g x l own cc ws rm n0) (hd : decode cc pc = .ok (.isub, 1)) (k : zJ g x M (pc + 1) lv (.int (u - v) :: st)) : zJ g x M pc lv (.int v :: .int u :: st) := by
  obtain ⟨p, l, e, R, s, m, args, below, meth, c, A, nL, cells, slots, Q⟩ := x
  obtain ⟨rfl, rfl, rfl, hx, hb, hml, hown, hts, hK, hD, hA, hc, hs⟩ := C
  intro H locs ls hP hS hl
  exact lv_isub hx hb hd (k H locs ls hP hS hl)
theorem z_imul {u v : Int32} (C : zC g x l own cc ws rm n0) (hd : decode cc pc = .ok (.imul, 1)) (k : zJ g x M (pc + 1) lv (.int (u * v) :: st)) : zJ g x M pc lv (.int v :: .int u :: st) := by
  obtain ⟨p, l, e, R, s, m, args, below, meth, c, A, nL, cells, slots, Q⟩ := x
  obtain ⟨rfl, rfl, rfl, hx, hb, hml, hown, hts, hK, hD, hA, hc, hs⟩ := C
  intro H locs ls hP hS hl
  exact lv_imul hx hb hd (k H locs ls hP hS hl)
theorem z_iand {u v : Int32} (C : zC g x l own cc ws rm n0) (hd : decode cc pc = .ok (.iand, 1)) (k : zJ g x M (pc + 1) lv (.int (u &&& v) :: st)) : zJ g x M pc lv (.int v :: .int u :: st) := by
  obtain ⟨p, l, e, R, s, m, args, below, meth, c, A, nL, cells, slots, Q⟩ := x
  obtain ⟨rfl, rfl, rfl, hx, hb, hml, hown, hts, hK, hD, hA, hc, hs⟩ := C
  intro H locs ls hP hS hl
  exact lv_iand hx hb hd (k H locs ls hP hS hl)
theorem z_ior {u v : Int32} (C : zC g x l own cc ws rm n0) (hd : decode cc pc = .ok (.ior, 1)) (k : zJ g x M (pc + 1) lv (.int (u ||| v) :: st)) : zJ g x M pc lv (.int v :: .int u :: st) := by
  obtain ⟨p, l, e, R, s, m, args, below, meth, c, A, nL, cells, slots, Q⟩ := x
  obtain ⟨rfl, rfl, rfl, hx, hb, hml, hown, hts, hK, hD, hA, hc, hs⟩ := C
  intro H locs ls hP hS hl
  exact lv_ior hx hb hd (k H locs ls hP hS hl)
theorem z_ishl {u v : Int32} (C : zC g x l own cc ws rm n0) (hd : decode cc pc = .ok (.ishl, 1)) (k : zJ g x M (pc + 1) lv (.int (u <<< (v &&& 31)) :: st)) : zJ g x M pc lv (.int v :: .int u :: st) := by
  obtain ⟨p, l, e, R, s, m, args, below, meth, c, A, nL, cells, slots, Q⟩ := x
  obtain ⟨rfl, rfl, rfl, hx, hb, hml, hown, hts, hK, hD, hA, hc, hs⟩ := C
  intro H locs ls hP hS hl
  exact lv_ishl hx hb hd (k H locs ls hP hS hl)
theorem z_ishr {u v : Int32} (C : zC g x l own cc ws rm n0) (hd : decode cc pc = .ok (.ishr, 1)) (k : zJ g x M (pc + 1) lv (.int (u >>> (v &&& 31)) :: st)) : zJ g x M pc lv (.int v :: .int u :: st) := by
  obtain ⟨p, l, e, R, s, m, args, below, meth, c, A, nL, cells, slots, Q⟩ := x
  obtain ⟨rfl, rfl, rfl, hx, hb, hml, hown, hts, hK, hD, hA, hc, hs⟩ := C
  intro H locs ls hP hS hl
  exact lv_ishr hx hb hd (k H locs ls hP hS hl)
theorem z_idiv {u v w : Int32} (C : zC g x l own cc ws rm n0) (hh : z_div u v = some w) (hd : decode cc pc = .ok (.idiv, 1)) (k : zJ g x M (pc + 1) lv (.int w :: st)) : zJ g x M pc lv (.int v :: .int u :: st) := by
  obtain ⟨p, l, e, R, s, m, args, below, meth, c, A, nL, cells, slots, Q⟩ := x
  obtain ⟨rfl, rfl, rfl, hx, hb, hml, hown, hts, hK, hD, hA, hc, hs⟩ := C
  intro H locs ls hP hS hl
  obtain ⟨hne, rfl⟩ := e_div hh
  exact lv_idiv hx hb hd hne (k H locs ls hP hS hl)
theorem z_irem {u v w : Int32} (C : zC g x l own cc ws rm n0) (hh : z_rem u v = some w) (hd : decode cc pc = .ok (.irem, 1)) (k : zJ g x M (pc + 1) lv (.int w :: st)) : zJ g x M pc lv (.int v :: .int u :: st) := by
  obtain ⟨p, l, e, R, s, m, args, below, meth, c, A, nL, cells, slots, Q⟩ := x
  obtain ⟨rfl, rfl, rfl, hx, hb, hml, hown, hts, hK, hD, hA, hc, hs⟩ := C
  intro H locs ls hP hS hl
  obtain ⟨hne, rfl⟩ := e_rem hh
  exact lv_irem hx hb hd hne (k H locs ls hP hS hl)
theorem z_ladd {u v : Int64} (C : zC g x l own cc ws rm n0) (hd : decode cc pc = .ok (.ladd, 1)) (k : zJ g x M (pc + 1) lv (.long (u + v) :: st)) : zJ g x M pc lv (.long v :: .long u :: st) := by
  obtain ⟨p, l, e, R, s, m, args, below, meth, c, A, nL, cells, slots, Q⟩ := x
  obtain ⟨rfl, rfl, rfl, hx, hb, hml, hown, hts, hK, hD, hA, hc, hs⟩ := C
  intro H locs ls hP hS hl
  exact lv_ladd hx hb hd (k H locs ls hP hS hl)
theorem z_lmul {u v : Int64} (C : zC g x l own cc ws rm n0) (hd : decode cc pc = .ok (.lmul, 1)) (k : zJ g x M (pc + 1) lv (.long (u * v) :: st)) : zJ g x M pc lv (.long v :: .long u :: st) := by
  obtain ⟨p, l, e, R, s, m, args, below, meth, c, A, nL, cells, slots, Q⟩ := x
  obtain ⟨rfl, rfl, rfl, hx, hb, hml, hown, hts, hK, hD, hA, hc, hs⟩ := C
  intro H locs ls hP hS hl
  exact lv_lmul hx hb hd (k H locs ls hP hS hl)
theorem z_lrem {u v w : Int64} (C : zC g x l own cc ws rm n0) (hh : z_rml u v = some w) (hd : decode cc pc = .ok (.lrem, 1)) (k : zJ g x M (pc + 1) lv (.long w :: st)) : zJ g x M pc lv (.long v :: .long u :: st) := by
  obtain ⟨p, l, e, R, s, m, args, below, meth, c, A, nL, cells, slots, Q⟩ := x
  obtain ⟨rfl, rfl, rfl, hx, hb, hml, hown, hts, hK, hD, hA, hc, hs⟩ := C
  intro H locs ls hP hS hl
  obtain ⟨hne, rfl⟩ := e_rml hh
  exact lv_lrem hx hb hd hne (k H locs ls hP hS hl)
theorem z_lcmp {u v : Int64} (C : zC g x l own cc ws rm n0) (hd : decode cc pc = .ok (.lcmp, 1)) (k : zJ g x M (pc + 1) lv (.int (lg_cmp u v) :: st)) : zJ g x M pc lv (.long v :: .long u :: st) := by
  obtain ⟨p, l, e, R, s, m, args, below, meth, c, A, nL, cells, slots, Q⟩ := x
  obtain ⟨rfl, rfl, rfl, hx, hb, hml, hown, hts, hK, hD, hA, hc, hs⟩ := C
  intro H locs ls hP hS hl
  exact W.lcmp hx hb hd (k H locs ls hP hS hl)
theorem z_i2l {u : Int32} (C : zC g x l own cc ws rm n0) (hd : decode cc pc = .ok (.i2l, 1)) (k : zJ g x M (pc + 1) lv (.long u.toInt64 :: st)) : zJ g x M pc lv (.int u :: st) := by
  obtain ⟨p, l, e, R, s, m, args, below, meth, c, A, nL, cells, slots, Q⟩ := x
  obtain ⟨rfl, rfl, rfl, hx, hb, hml, hown, hts, hK, hD, hA, hc, hs⟩ := C
  intro H locs ls hP hS hl
  exact lv_i2l hx hb hd rfl (k H locs ls hP hS hl)
theorem z_l2i {u : Int64} (C : zC g x l own cc ws rm n0) (hd : decode cc pc = .ok (.l2i, 1)) (k : zJ g x M (pc + 1) lv (.int u.toInt32 :: st)) : zJ g x M pc lv (.long u :: st) := by
  obtain ⟨p, l, e, R, s, m, args, below, meth, c, A, nL, cells, slots, Q⟩ := x
  obtain ⟨rfl, rfl, rfl, hx, hb, hml, hown, hts, hK, hD, hA, hc, hs⟩ := C
  intro H locs ls hP hS hl
  exact lv_l2i hx hb hd rfl (k H locs ls hP hS hl)
theorem z_dup {va : Value} (C : zC g x l own cc ws rm n0) (hd : decode cc pc = .ok (.dup, 1)) (hva : va.category = 1) (k : zJ g x M (pc + 1) lv (va :: va :: st)) : zJ g x M pc lv (va :: st) := by
  obtain ⟨p, l, e, R, s, m, args, below, meth, c, A, nL, cells, slots, Q⟩ := x
  obtain ⟨rfl, rfl, rfl, hx, hb, hml, hown, hts, hK, hD, hA, hc, hs⟩ := C
  intro H locs ls hP hS hl
  exact lv_dup hx hb hd hva (k H locs ls hP hS hl)
theorem z_dup2 {va vb : Value} (C : zC g x l own cc ws rm n0) (hd : decode cc pc = .ok (.dup2, 1)) (hva : va.category = 1) (hvb : vb.category = 1) (k : zJ g x M (pc + 1) lv (va :: vb :: va :: vb :: st)) : zJ g x M pc lv (va :: vb :: st) := by
  obtain ⟨p, l, e, R, s, m, args, below, meth, c, A, nL, cells, slots, Q⟩ := x
  obtain ⟨rfl, rfl, rfl, hx, hb, hml, hown, hts, hK, hD, hA, hc, hs⟩ := C
  intro H locs ls hP hS hl
  exact lv_dup2_11 hx hb hd hva hvb (k H locs ls hP hS hl)
theorem z_icmp_eq {u v : Int32} {off : Int} (tgt : Nat) (C : zC g x l own cc ws rm n0) (hd : decode cc pc = .ok (.if_icmp .eq off, 3)) (ht : (pc : Int) + off = (tgt : Int)) (kt : u = v → zJ g x M tgt lv st) (kf : ¬ u = v → zJ g x M (pc + 3) lv st) : zJ g x M pc lv (.int v :: .int u :: st) := by
  obtain ⟨p, l, e, R, s, m, args, below, meth, c, A, nL, cells, slots, Q⟩ := x
  obtain ⟨rfl, rfl, rfl, hx, hb, hml, hown, hts, hK, hD, hA, hc, hs⟩ := C
  intro H locs ls hP hS hl
  exact lv_icmp_eq hx hb hd ht (fun h => kt h H locs ls hP hS hl) (fun h => kf h H locs ls hP hS hl)
theorem z_icmp_ne {u v : Int32} {off : Int} (tgt : Nat) (C : zC g x l own cc ws rm n0) (hd : decode cc pc = .ok (.if_icmp .ne off, 3)) (ht : (pc : Int) + off = (tgt : Int)) (kt : ¬ u = v → zJ g x M tgt lv st) (kf : u = v → zJ g x M (pc + 3) lv st) : zJ g x M pc lv (.int v :: .int u :: st) := by
  obtain ⟨p, l, e, R, s, m, args, below, meth, c, A, nL, cells, slots, Q⟩ := x
  obtain ⟨rfl, rfl, rfl, hx, hb, hml, hown, hts, hK, hD, hA, hc, hs⟩ := C
  intro H locs ls hP hS hl
  exact lv_icmp_ne hx hb hd ht (fun h => kt h H locs ls hP hS hl) (fun h => kf h H locs ls hP hS hl)
theorem z_icmp_lt {u v : Int32} {off : Int} (tgt : Nat) (C : zC g x l own cc ws rm n0) (hd : decode cc pc = .ok (.if_icmp .lt off, 3)) (ht : (pc : Int) + off = (tgt : Int)) (kt : u < v → zJ g x M tgt lv st) (kf : ¬ u < v → zJ g x M (pc + 3) lv st) : zJ g x M pc lv (.int v :: .int u :: st) := by
  obtain ⟨p, l, e, R, s, m, args, below, meth, c, A, nL, cells, slots, Q⟩ := x
  obtain ⟨rfl, rfl, rfl, hx, hb, hml, hown, hts, hK, hD, hA, hc, hs⟩ := C
  intro H locs ls hP hS hl
  exact lv_icmp_lt hx hb hd ht (fun h => kt h H locs ls hP hS hl) (fun h => kf h H locs ls hP hS hl)
theorem z_icmp_ge {u v : Int32} {off : Int} (tgt : Nat) (C : zC g x l own cc ws rm n0) (hd : decode cc pc = .ok (.if_icmp .ge off, 3)) (ht : (pc : Int) + off = (tgt : Int)) (kt : v ≤ u → zJ g x M tgt lv st) (kf : ¬ v ≤ u → zJ g x M (pc + 3) lv st) : zJ g x M pc lv (.int v :: .int u :: st) := by
  obtain ⟨p, l, e, R, s, m, args, below, meth, c, A, nL, cells, slots, Q⟩ := x
  obtain ⟨rfl, rfl, rfl, hx, hb, hml, hown, hts, hK, hD, hA, hc, hs⟩ := C
  intro H locs ls hP hS hl
  exact lv_icmp_ge hx hb hd ht (fun h => kt h H locs ls hP hS hl) (fun h => kf h H locs ls hP hS hl)
theorem z_icmp_gt {u v : Int32} {off : Int} (tgt : Nat) (C : zC g x l own cc ws rm n0) (hd : decode cc pc = .ok (.if_icmp .gt off, 3)) (ht : (pc : Int) + off = (tgt : Int)) (kt : v < u → zJ g x M tgt lv st) (kf : ¬ v < u → zJ g x M (pc + 3) lv st) : zJ g x M pc lv (.int v :: .int u :: st) := by
  obtain ⟨p, l, e, R, s, m, args, below, meth, c, A, nL, cells, slots, Q⟩ := x
  obtain ⟨rfl, rfl, rfl, hx, hb, hml, hown, hts, hK, hD, hA, hc, hs⟩ := C
  intro H locs ls hP hS hl
  exact lv_icmp_gt hx hb hd ht (fun h => kt h H locs ls hP hS hl) (fun h => kf h H locs ls hP hS hl)
theorem z_icmp_le {u v : Int32} {off : Int} (tgt : Nat) (C : zC g x l own cc ws rm n0) (hd : decode cc pc = .ok (.if_icmp .le off, 3)) (ht : (pc : Int) + off = (tgt : Int)) (kt : u ≤ v → zJ g x M tgt lv st) (kf : ¬ u ≤ v → zJ g x M (pc + 3) lv st) : zJ g x M pc lv (.int v :: .int u :: st) := by
  obtain ⟨p, l, e, R, s, m, args, below, meth, c, A, nL, cells, slots, Q⟩ := x
  obtain ⟨rfl, rfl, rfl, hx, hb, hml, hown, hts, hK, hD, hA, hc, hs⟩ := C
  intro H locs ls hP hS hl
  exact lv_icmp_le hx hb hd ht (fun h => kt h H locs ls hP hS hl) (fun h => kf h H locs ls hP hS hl)
theorem z_if_eq {u : Int32} {off : Int} (tgt : Nat) (C : zC g x l own cc ws rm n0) (hd : decode cc pc = .ok (.ifCond .eq off, 3)) (ht : (pc : Int) + off = (tgt : Int)) (kt : u = 0 → zJ g x M tgt lv st) (kf : ¬ u = 0 → zJ g x M (pc + 3) lv st) : zJ g x M pc lv (.int u :: st) := by
  obtain ⟨p, l, e, R, s, m, args, below, meth, c, A, nL, cells, slots, Q⟩ := x
  obtain ⟨rfl, rfl, rfl, hx, hb, hml, hown, hts, hK, hD, hA, hc, hs⟩ := C
  intro H locs ls hP hS hl
  exact lv_if_eq hx hb hd ht (fun h => kt h H locs ls hP hS hl) (fun h => kf h H locs ls hP hS hl)
theorem z_if_ne {u : Int32} {off : Int} (tgt : Nat) (C : zC g x l own cc ws rm n0) (hd : decode cc pc = .ok (.ifCond .ne off, 3)) (ht : (pc : Int) + off = (tgt : Int)) (kt : ¬ u = 0 → zJ g x M tgt lv st) (kf : u = 0 → zJ g x M (pc + 3) lv st) : zJ g x M pc lv (.int u :: st) := by
  obtain ⟨p, l, e, R, s, m, args, below, meth, c, A, nL, cells, slots, Q⟩ := x
  obtain ⟨rfl, rfl, rfl, hx, hb, hml, hown, hts, hK, hD, hA, hc, hs⟩ := C
  intro H locs ls hP hS hl
  exact lv_if_ne hx hb hd ht (fun h => kt h H locs ls hP hS hl) (fun h => kf h H locs ls hP hS hl)
theorem z_if_lt {u : Int32} {off : Int} (tgt : Nat) (C : zC g x l own cc ws rm n0) (hd : decode cc pc = .ok (.ifCond .lt off, 3)) (ht : (pc : Int) + off = (tgt : Int)) (kt : u < 0 → zJ g x M tgt lv st) (kf : ¬ u < 0 → zJ g x M (pc + 3) lv st) : zJ g x M pc lv (.int u :: st) := by
  obtain ⟨p, l, e, R, s, m, args, below, meth, c, A, nL, cells, slots, Q⟩ := x
  obtain ⟨rfl, rfl, rfl, hx, hb, hml, hown, hts, hK, hD, hA, hc, hs⟩ := C
  intro H locs ls hP hS hl
  exact lv_if_lt hx hb hd ht (fun h => kt h H locs ls hP hS hl) (fun h => kf h H locs ls hP hS hl)
theorem z_if_ge {u : Int32} {off : Int} (tgt : Nat) (C : zC g x l own cc ws rm n0) (hd : decode cc pc = .ok (.ifCond .ge off, 3)) (ht : (pc : Int) + off = (tgt : Int)) (kt : 0 ≤ u → zJ g x M tgt lv st) (kf : ¬ 0 ≤ u → zJ g x M (pc + 3) lv st) : zJ g x M pc lv (.int u :: st) := by
  obtain ⟨p, l, e, R, s, m, args, below, meth, c, A, nL, cells, slots, Q⟩ := x
  obtain ⟨rfl, rfl, rfl, hx, hb, hml, hown, hts, hK, hD, hA, hc, hs⟩ := C
  intro H locs ls hP hS hl
  exact lv_if_ge hx hb hd ht (fun h => kt h H locs ls hP hS hl) (fun h => kf h H locs ls hP hS hl)
theorem z_if_gt {u : Int32} {off : Int} (tgt : Nat) (C : zC g x l own cc ws rm n0) (hd : decode cc pc = .ok (.ifCond .gt off, 3)) (ht : (pc : Int) + off = (tgt : Int)) (kt : 0 < u → zJ g x M tgt lv st) (kf : ¬ 0 < u → zJ g x M (pc + 3) lv st) : zJ g x M pc lv (.int u :: st) := by
  obtain ⟨p, l, e, R, s, m, args, below, meth, c, A, nL, cells, slots, Q⟩ := x
  obtain ⟨rfl, rfl, rfl, hx, hb, hml, hown, hts, hK, hD, hA, hc, hs⟩ := C
  intro H locs ls hP hS hl
  exact lv_if_gt hx hb hd ht (fun h => kt h H locs ls hP hS hl) (fun h => kf h H locs ls hP hS hl)
theorem z_if_le {u : Int32} {off : Int} (tgt : Nat) (C : zC g x l own cc ws rm n0) (hd : decode cc pc = .ok (.ifCond .le off, 3)) (ht : (pc : Int) + off = (tgt : Int)) (kt : u ≤ 0 → zJ g x M tgt lv st) (kf : ¬ u ≤ 0 → zJ g x M (pc + 3) lv st) : zJ g x M pc lv (.int u :: st) := by
  obtain ⟨p, l, e, R, s, m, args, below, meth, c, A, nL, cells, slots, Q⟩ := x
  obtain ⟨rfl, rfl, rfl, hx, hb, hml, hown, hts, hK, hD, hA, hc, hs⟩ := C
  intro H locs ls hP hS hl
  exact lv_if_le hx hb hd ht (fun h => kt h H locs ls hP hS hl) (fun h => kf h H locs ls hP hS hl)
theorem z_goto {off : Int} (tgt : Nat) (C : zC g x l own cc ws rm n0) (hd : decode cc pc = .ok (.goto off, 3)) (ht : (pc : Int) + off = (tgt : Int)) (k : zJ g x M tgt lv st) : zJ g x M pc lv (st) := by
  obtain ⟨p, l, e, R, s, m, args, below, meth, c, A, nL, cells, slots, Q⟩ := x
  obtain ⟨rfl, rfl, rfl, hx, hb, hml, hown, hts, hK, hD, hA, hc, hs⟩ := C
  intro H locs ls hP hS hl
  exact lv_goto hx hb hd ht (k H locs ls hP hS hl)
theorem z_tableIn {dflt lo hi : Int} {offs : Array Int} {len : Nat} {u : Int32} {off : Int} (tgt : Nat) (C : zC g x l own cc ws rm n0) (hd : decode cc pc = .ok (.tableswitch dflt lo hi offs, len)) (h1 : ¬ u.toInt < lo) (h2 : ¬ hi < u.toInt) (ho : offs[(u.toInt - lo).toNat]? = some off) (ht : (pc : Int) + off = (tgt : Int)) (k : zJ g x M tgt lv st) : zJ g x M pc lv (.int u :: st) := by
  obtain ⟨p, l, e, R, s, m, args, below, meth, c, A, nL, cells, slots, Q⟩ := x
  obtain ⟨rfl, rfl, rfl, hx, hb, hml, hown, hts, hK, hD, hA, hc, hs⟩ := C
  intro H locs ls hP hS hl
  exact lv_tableIn hx hb hd h1 h2 ho ht (k H locs ls hP hS hl)
theorem z_tableOut {dflt lo hi : Int} {offs : Array Int} {len : Nat} {u : Int32} (tgt : Nat) (C : zC g x l own cc ws rm n0) (hd : decode cc pc = .ok (.tableswitch dflt lo hi offs, len)) (h : u.toInt < lo ∨ hi < u.toInt) (ht : (pc : Int) + dflt = (tgt : Int)) (k : zJ g x M tgt lv st) : zJ g x M pc lv (.int u :: st) := by
  obtain ⟨p, l, e, R, s, m, args, below, meth, c, A, nL, cells, slots, Q⟩ := x
  obtain ⟨rfl, rfl, rfl, hx, hb, hml, hown, hts, hK, hD, hA, hc, hs⟩ := C
  intro H locs ls hP hS hl
  exact lv_tableOut hx hb hd h ht (k H locs ls hP hS hl)
theorem z_get {q ci : Nat} {fs : Gx → (Nat → Int32) → List Value} {T : u_T} {N index : Nat} {CC : String} {v : Value} (C : zC g x l own cc ws rm n0) (hq : isO q ci fs) (j : Nat) (hcl : vwCl[ci]? = some (CC, T, N)) (hin : ∀ w ∈ u_ws CC T N, w ∈ ws) (hj : j < N) (hw : Cond.fieldLink own index (T j).1 (T j).2.1 (T j).2.2.1 ∈ ws) (hd : decode cc pc = .ok (.getfield index, 3)) (hv : (fs g (M q))[j]? = some v) (k : zJ g x M (pc + 3) lv (v :: st)) : zJ g x M pc lv (.ref (ga g q) :: st) := by
  obtain ⟨p, l, e, R, s, m, args, below, meth, c, A, nL, cells, slots, Q⟩ := x
  obtain ⟨rfl, rfl, rfl, hx, hb, hml, hown, hts, hK, hD, hA, hc, hs⟩ := C
  intro H locs ls hP hS hl
  exact va_get hx hb hts hin hown hK hP q (hq.1 g M) hcl j hj (hts _ hw) (fun _ h9 => h9) hv hd (k H locs ls hP hS hl)
theorem z_puti {q ci : Nat} {fs : Gx → (Nat → Int32) → List Value} {T : u_T} {N index : Nat} {CC : String} {v : Int32} (ty0 : Nat → FieldType) (C : zC g x l own cc ws rm n0) (hq : isO q ci fs) (j : Nat) (hset : ∀ (g : Gx) (f : Nat → Int32) (v : Int32), (fs g f).set j (.int v) = fs g (upd f j v)) (hcl : vwCl[ci]? = some (CC, T, N)) (hin : ∀ w ∈ u_ws CC T N, w ∈ ws) (hty : ∀ k, k < N → parseFieldDescriptor (T k).2.2.1 = some (ty0 k)) (hnm : ∀ a, a < N → ∀ b, b < N → a ≠ b → (T a).2.1 ≠ (T b).2.1) (hj : j < N) (hfin : (T j).2.2.2 = false) (hlen : j < (fs g (M q)).length) (hw : Cond.fieldLink own index (T j).1 (T j).2.1 (T j).2.2.1 ∈ ws) (hd : decode cc pc = .ok (.putfield index, 3)) (hi : ty0 j = .int) {M1 : MM} (hh : z_stf M q j v = some M1) (k : zJ g x M1 (pc + 3) lv st) : zJ g x M pc lv (.int v :: .ref (ga g q) :: st) := by
  obtain ⟨p, l, e, R, s, m, args, below, meth, c, A, nL, cells, slots, Q⟩ := x
  obtain ⟨rfl, rfl, rfl, hx, hb, hml, hown, hts, hK, hD, hA, hc, hs⟩ := C
  intro H locs ls hP hS hl
  obtain rfl := e_stf hh
  refine va_put hx hb hts hin ty0 hty hnm hown hK hP (hD M) hS q (hq.1 g M) hcl j hj (hts _ hw) (fun _ h9 => h9) hfin (ty := .int) (by rw [hty j hj, hi]) rfl rfl hlen hd (fun H1 locs1 hP1 hD1 hS1 => ?_)
  rw [hset, hq.2] at hP1
  exact k H1 locs1 ls hP1 hS1 hl
theorem z_putz {q ci : Nat} {fs : Gx → (Nat → Int32) → List Value} {T : u_T} {N index : Nat} {CC : String} {v : Int32} (ty0 : Nat → FieldType) (C : zC g x l own cc ws rm n0) (hq : isO q ci fs) (j : Nat) (hset : ∀ (g : Gx) (f : Nat → Int32) (v : Int32), (fs g f).set j (.int v) = fs g (upd f j v)) (hcl : vwCl[ci]? = some (CC, T, N)) (hin : ∀ w ∈ u_ws CC T N, w ∈ ws) (hty : ∀ k, k < N → parseFieldDescriptor (T k).2.2.1 = some (ty0 k)) (hnm : ∀ a, a < N → ∀ b, b < N → a ≠ b → (T a).2.1 ≠ (T b).2.1) (hj : j < N) (hfin : (T j).2.2.2 = false) (hlen : j < (fs g (M q)).length) (hw : Cond.fieldLink own index (T j).1 (T j).2.1 (T j).2.2.1 ∈ ws) (hd : decode cc pc = .ok (.putfield index, 3)) (hi : ty0 j = .boolean) {M1 : MM} (hh : z_stb M q j v = some M1) (k : zJ g x M1 (pc + 3) lv st) : zJ g x M pc lv (.int v :: .ref (ga g q) :: st) := by
  obtain ⟨p, l, e, R, s, m, args, below, meth, c, A, nL, cells, slots, Q⟩ := x
  obtain ⟨rfl, rfl, rfl, hx, hb, hml, hown, hts, hK, hD, hA, hc, hs⟩ := C
  intro H locs ls hP hS hl
  obtain ⟨hz, rfl⟩ := e_stb hh
  refine va_put hx hb hts hin ty0 hty hnm hown hK hP (hD M) hS q (hq.1 g M) hcl j hj (hts _ hw) (fun _ h9 => h9) hfin (ty := .boolean) (by rw [hty j hj, hi]) (by rcases hz with rfl | rfl <;> rfl) (by rcases hz with rfl | rfl <;> rfl) hlen hd (fun H1 locs1 hP1 hD1 hS1 => ?_)
  rw [hset, hq.2] at hP1
  exact k H1 locs1 ls hP1 hS1 hl
theorem z_iald {q n : Nat} {i v : Int32} (C : zC g x l own cc ws rm n0) (hq : isI q n) (hh : z_ld M q n i = some v) (hd : decode cc pc = .ok (.iaload, 1)) (k : zJ g x M (pc + 1) lv (.int v :: st)) : zJ g x M pc lv (.int i :: .ref (ga g q) :: st) := by
  obtain ⟨p, l, e, R, s, m, args, below, meth, c, A, nL, cells, slots, Q⟩ := x
  obtain ⟨rfl, rfl, rfl, hx, hb, hml, hown, hts, hK, hD, hA, hc, hs⟩ := C
  intro H locs ls hP hS hl
  obtain ⟨hin, rfl⟩ := e_ld hh
  exact va_iald hx hb hK hP q 0 (hq.1 g M) rfl hin hd (k H locs ls hP hS hl)
theorem z_zald {q n : Nat} {i v : Int32} (C : zC g x l own cc ws rm n0) (hq : isZ q n) (hh : z_ld M q n i = some v) (hd : decode cc pc = .ok (.baload, 1)) (k : zJ g x M (pc + 1) lv (.int v :: st)) : zJ g x M pc lv (.int i :: .ref (ga g q) :: st) := by
  obtain ⟨p, l, e, R, s, m, args, below, meth, c, A, nL, cells, slots, Q⟩ := x
  obtain ⟨rfl, rfl, rfl, hx, hb, hml, hown, hts, hK, hD, hA, hc, hs⟩ := C
  intro H locs ls hP hS hl
  obtain ⟨hin, rfl⟩ := e_ld hh
  exact va_zald hx hb hK hP q 1 (hq.1 g M) rfl hin hd (k H locs ls hP hS hl)
theorem z_iast {q n : Nat} {i v : Int32} {M1 : MM} (C : zC g x l own cc ws rm n0) (hq : isI q n) (hh : z_sto M q n i v = some M1) (hd : decode cc pc = .ok (.iastore, 1)) (k : zJ g x M1 (pc + 1) lv st) : zJ g x M pc lv (.int v :: .int i :: .ref (ga g q) :: st) := by
  obtain ⟨p, l, e, R, s, m, args, below, meth, c, A, nL, cells, slots, Q⟩ := x
  obtain ⟨rfl, rfl, rfl, hx, hb, hml, hown, hts, hK, hD, hA, hc, hs⟩ := C
  intro H locs ls hP hS hl
  obtain ⟨hin, rfl⟩ := e_sto hh
  refine va_iast hx hb hK hP (hD M) hS q 0 (hq.1 g M) rfl hin hd (fun H1 locs1 hP1 hD1 hS1 => ?_)
  rw [hq.2] at hP1
  exact k H1 locs1 ls hP1 hS1 hl
theorem z_zast {q n : Nat} {i v : Int32} {M1 : MM} (C : zC g x l own cc ws rm n0) (hq : isZ q n) (hh : z_stz M q n i v = some M1) (hd : decode cc pc = .ok (.bastore, 1)) (k : zJ g x M1 (pc + 1) lv st) : zJ g x M pc lv (.int v :: .int i :: .ref (ga g q) :: st) := by
  obtain ⟨p, l, e, R, s, m, args, below, meth, c, A, nL, cells, slots, Q⟩ := x
  obtain ⟨rfl, rfl, rfl, hx, hb, hml, hown, hts, hK, hD, hA, hc, hs⟩ := C
  intro H locs ls hP hS hl
  obtain ⟨hz, hin, rfl⟩ := e_stz hh
  refine va_zast hx hb hK hP (hD M) hS q 1 (hq.1 g M) rfl hin hd (fun H1 locs1 hP1 hD1 hS1 => ?_)
  rw [show vp_nar .boolean v = v by rcases hz with rfl | rfl <;> rfl, hq.2] at hP1
  exact k H1 locs1 ls hP1 hS1 hl
theorem z_alen {q n : Nat} (v : Int32) (C : zC g x l own cc ws rm n0) (hq : isI q n) (hv : Int32.ofNat n = v) (hd : decode cc pc = .ok (.arraylength, 1)) (k : zJ g x M (pc + 1) lv (.int v :: st)) : zJ g x M pc lv (.ref (ga g q) :: st) := by
  obtain ⟨p, l, e, R, s, m, args, below, meth, c, A, nL, cells, slots, Q⟩ := x
  obtain ⟨rfl, rfl, rfl, hx, hb, hml, hown, hts, hK, hD, hA, hc, hs⟩ := C
  intro H locs ls hP hS hl
  exact va_alen hx hb hK hP q 0 (hq.1 g M) rfl hv hd (k H locs ls hP hS hl)
theorem z_max {u v : Int32} {index : Nat} (C : zC g x l own cc ws rm n0) (w1 : Cond.methodLink own index Lib.Math.max.name ∈ ws) (w2 : Cond.static Lib.Math.max.name ∈ ws) (w3 : Cond.initialized "java/lang/Math" ∈ ws) (w4 : Cond.code Lib.Math.max.name Lib.Math.max.code 2 (some .int) ∈ ws) (hf : 1 ≤ rm.frames) (hlo : (st.map fun v => v.category).sum + 13 ≤ rm.locals) (hd : decode cc pc = .ok (.invokestatic index, 3)) (k : zJ g x M (pc + 3) lv (.int (if u < v then v else u) :: st)) : zJ g x M pc lv (.int v :: .int u :: st) := by
  obtain ⟨p, l, e, R, s, m, args, below, meth, c, A, nL, cells, slots, Q⟩ := x
  obtain ⟨rfl, rfl, rfl, hx, hb, hml, hown, hts, hK, hD, hA, hc, hs⟩ := C
  intro H locs ls hP hS hl
  exact va_mmax hx hb (by rw [hml]; exact hl.1.symm) hown (hts _ w1) (hts _ w2) (hts _ w3) (hts _ w4) hf hlo hc hs hd (k H locs ls hP hS hl)
theorem z_min {u v : Int32} {index : Nat} (C : zC g x l own cc ws rm n0) (w1 : Cond.methodLink own index Lib.Math.min.name ∈ ws) (w2 : Cond.static Lib.Math.min.name ∈ ws) (w3 : Cond.initialized "java/lang/Math" ∈ ws) (w4 : Cond.code Lib.Math.min.name Lib.Math.min.code 2 (some .int) ∈ ws) (hf : 1 ≤ rm.frames) (hlo : (st.map fun v => v.category).sum + 13 ≤ rm.locals) (hd : decode cc pc = .ok (.invokestatic index, 3)) (k : zJ g x M (pc + 3) lv (.int (if v < u then v else u) :: st)) : zJ g x M pc lv (.int v :: .int u :: st) := by
  obtain ⟨p, l, e, R, s, m, args, below, meth, c, A, nL, cells, slots, Q⟩ := x
  obtain ⟨rfl, rfl, rfl, hx, hb, hml, hown, hts, hK, hD, hA, hc, hs⟩ := C
  intro H locs ls hP hS hl
  exact va_mmin hx hb (by rw [hml]; exact hl.1.symm) hown (hts _ w1) (hts _ w2) (hts _ w3) (hts _ w4) hf hlo hc hs hd (k H locs ls hP hS hl)
theorem z_copy {q0 q1 n m0 : Nat} {sp dp z : Int32} {index : Nat} (C : zC g x l own cc ws rm n0) (hq0 : isI q0 n) (hq1 : isI q1 m0) (w1 : Cond.methodLink own index arraycopyName ∈ ws) (w2 : Cond.native arraycopyName ∈ ws) (w3 : Cond.static arraycopyName ∈ ws) (w4 : Cond.initialized "java/lang/System" ∈ ws) {M1 : MM} (hh : z_cpy M q0 n sp q1 m0 dp z = some M1) (hf : 1 ≤ rm.frames) (hlo : (st.map fun v => v.category).sum + (nativeFrameWords "java/lang/System" "arraycopy" 5 + 11) ≤ rm.locals) (hd : decode cc pc = .ok (.invokestatic index, 3)) (k : zJ g x M1 (pc + 3) lv st) : zJ g x M pc lv (.int z :: .int dp :: .ref (ga g q1) :: .int sp :: .ref (ga g q0) :: st) := by
  obtain ⟨p, l, e, R, s, m, args, below, meth, c, A, nL, cells, slots, Q⟩ := x
  obtain ⟨rfl, rfl, rfl, hx, hb, hml, hown, hts, hK, hD, hA, hc, hs⟩ := C
  intro H locs ls hP hS hl
  obtain ⟨⟨h1, h2, h3, h4, h5⟩, rfl⟩ := e_cpy hh
  refine va_copyi hx hb (by rw [hml]; exact hl.1.symm) hown (hts _ w1) (hts _ w2) (hts _ w3) (hts _ w4) hK hP (hD M) hS q0 q1 0 0 (hq0.1 g M) (hq1.1 g M) rfl rfl rfl h1 h2 h3 h4 h5 (fun i hi => rfl) hf hlo hd (fun H1 locs1 hP1 hD1 hS1 => ?_)
  rw [hq1.2] at hP1
  exact k H1 locs1 ls hP1 hS1 hl
theorem z_callVi {q ci maxL n index : Nat} {fs : Gx → (Nat → Int32) → List Value} {T : u_T} {N : Nat} {CC : String} {y : MethodName} {ws1 ws2 : List Cond} {rm1 : Room} {As : List Value} {bytes : ByteArray} {ret : Option FieldType} {st0 : List Value} {M1 : MM} {r : Int32} (C : zC g x l own cc ws rm n0) (hM : zMi l y ws1 rm1 (.ref (ga g q) :: As) g M r M1) (hst : st0 = As.reverse ++ .ref (ga g q) :: st) (hq : isO q ci fs) (hcl : vwCl[ci]? = some (CC, T, N)) (hG : GoodIn ws (wsV own index CC y ws1)) (hw : ws1 = Cond.code y bytes maxL ret :: ws2) (hrc : rm1.cells = 0) (hrs : rm1.slots = 0) (hy : y.cls = CC ∧ y.cls ≠ "java/lang/invoke/MethodHandle" ∧ y.cls ≠ "java/lang/invoke/VarHandle" ∧ (parseMethodDescriptor y.desc).map (fun d => d.parameters.length) = some n) (hn : As.length = n) (hR : rm1.frames + 1 ≤ rm.frames ∧ 8 + (maxL + 11) + rm1.locals ≤ rm.locals) (hst8 : (st.map fun v => v.category).sum ≤ 8) (hd : decode cc pc = .ok (.invokevirtual index, 3)) (k : zJ g x M1 (pc + 3) lv (.int r :: st)) : zJ g x M pc lv (st0) := by
  obtain ⟨p, l, e, R, s, m, args, below, meth, c, A, nL, cells, slots, Q⟩ := x
  obtain ⟨rfl, rfl, rfl, hx, hb, hml, hown, hts, hK, hD, hA, hc, hs⟩ := C
  intro H locs ls hP hS hl
  have h9 : ∀ q, va_A (wd g M) H.size q → A q := fun q h => by
    rcases h with ⟨k, e, h⟩ | h
    · exact (hD M).2 k (q, e) h
    · exact hA q (Nat.le_trans hS.1 h)
  refine va_calli (va_runV (As := As) (rest := st) ⟨hx, hb, hml, hown, hts⟩ (hM H.size) (cwV n hts hG hw hrc hrs hy hR) ⟨zU_blind _ g M _, va_recv hK hP hcl (hq.1 g M), fun U hU hW => ⟨rfl, by rw [hU], by rw [hU]; exact hP, va_K.moved hW.alike hK, (hD M).weaken (fun _ _ _ _ => trivial)⟩⟩ rfl hn hl.1 hst (lv_room hst8) hd ⟨hc, hs⟩) hS (fun q _ h => h9 q h) h9 (fun r1 u t H1 locs1 ht hvm hw hB hz1 hk1 hS1 => ?_)
  obtain ⟨rfl, rfl⟩ := hw
  exact k H1 locs1 ls (by have hB2 : va_P g.1 vwCl (wd g _) t.heap := hB; rw [ht] at hB2; exact hB2) hS1 hl
theorem z_callVv {q ci maxL n index : Nat} {fs : Gx → (Nat → Int32) → List Value} {T : u_T} {N : Nat} {CC : String} {y : MethodName} {ws1 ws2 : List Cond} {rm1 : Room} {As : List Value} {bytes : ByteArray} {ret : Option FieldType} {st0 : List Value} {M1 : MM} (C : zC g x l own cc ws rm n0) (hM : zMv l y ws1 rm1 (.ref (ga g q) :: As) g M M1) (hst : st0 = As.reverse ++ .ref (ga g q) :: st) (hq : isO q ci fs) (hcl : vwCl[ci]? = some (CC, T, N)) (hG : GoodIn ws (wsV own index CC y ws1)) (hw : ws1 = Cond.code y bytes maxL ret :: ws2) (hrc : rm1.cells = 0) (hrs : rm1.slots = 0) (hy : y.cls = CC ∧ y.cls ≠ "java/lang/invoke/MethodHandle" ∧ y.cls ≠ "java/lang/invoke/VarHandle" ∧ (parseMethodDescriptor y.desc).map (fun d => d.parameters.length) = some n) (hn : As.length = n) (hR : rm1.frames + 1 ≤ rm.frames ∧ 8 + (maxL + 11) + rm1.locals ≤ rm.locals) (hst8 : (st.map fun v => v.category).sum ≤ 8) (hd : decode cc pc = .ok (.invokevirtual index, 3)) (k : zJ g x M1 (pc + 3) lv st) : zJ g x M pc lv (st0) := by
  obtain ⟨p, l, e, R, s, m, args, below, meth, c, A, nL, cells, slots, Q⟩ := x
  obtain ⟨rfl, rfl, rfl, hx, hb, hml, hown, hts, hK, hD, hA, hc, hs⟩ := C
  intro H locs ls hP hS hl
  have h9 : ∀ q, va_A (wd g M) H.size q → A q := fun q h => by
    rcases h with ⟨k, e, h⟩ | h
    · exact (hD M).2 k (q, e) h
    · exact hA q (Nat.le_trans hS.1 h)
  refine va_callv (va_runV (As := As) (rest := st) ⟨hx, hb, hml, hown, hts⟩ (hM H.size) (cwV n hts hG hw hrc hrs hy hR) ⟨zU_blind _ g M _, va_recv hK hP hcl (hq.1 g M), fun U hU hW => ⟨rfl, by rw [hU], by rw [hU]; exact hP, va_K.moved hW.alike hK, (hD M).weaken (fun _ _ _ _ => trivial)⟩⟩ rfl hn hl.1 hst (lv_room hst8) hd ⟨hc, hs⟩) hS (fun q _ h => h9 q h) h9 (fun u t H1 locs1 ht hvm hw hB hz1 hk1 hS1 => ?_)
  obtain rfl := hw
  exact k H1 locs1 ls (by have hB2 : va_P g.1 vwCl (wd g _) t.heap := hB; rw [ht] at hB2; exact hB2) hS1 hl
theorem z_callSi {maxL n index : Nat} {y : MethodName} {ws1 ws2 : List Cond} {rm1 : Room} {As : List Value} {bytes : ByteArray} {ret : Option FieldType} {st0 : List Value} {M1 : MM} {r : Int32} (C : zC g x l own cc ws rm n0) (hM : zMi l y ws1 rm1 As g M r M1) (hst : st0 = As.reverse ++ st) (hG : GoodIn ws (va_wsS own index y ws1)) (hw : ws1 = Cond.code y bytes maxL ret :: ws2) (hrc : rm1.cells = 0) (hrs : rm1.slots = 0) (hy : y.cls ≠ "java/lang/invoke/MethodHandle" ∧ y.cls ≠ "java/lang/invoke/VarHandle" ∧ (parseMethodDescriptor y.desc).map (fun d => d.parameters.length) = some n) (hn : As.length = n) (hR : rm1.frames + 1 ≤ rm.frames ∧ 8 + (maxL + 11) + rm1.locals ≤ rm.locals) (hst8 : (st.map fun v => v.category).sum ≤ 8) (hd : decode cc pc = .ok (.invokestatic index, 3)) (k : zJ g x M1 (pc + 3) lv (.int r :: st)) : zJ g x M pc lv (st0) := by
  obtain ⟨p, l, e, R, s, m, args, below, meth, c, A, nL, cells, slots, Q⟩ := x
  obtain ⟨rfl, rfl, rfl, hx, hb, hml, hown, hts, hK, hD, hA, hc, hs⟩ := C
  intro H locs ls hP hS hl
  have h9 : ∀ q, va_A (wd g M) H.size q → A q := fun q h => by
    rcases h with ⟨k, e, h⟩ | h
    · exact (hD M).2 k (q, e) h
    · exact hA q (Nat.le_trans hS.1 h)
  refine va_calli (va_runS (As := As) (rest := st) ⟨hx, hb, hml, hown, hts⟩ (hM H.size) (va_cwS n hts hG hw hrc hrs hy hR) ⟨zU_blind _ g M _, fun U hU hW => ⟨rfl, by rw [hU], by rw [hU]; exact hP, va_K.moved hW.alike hK, (hD M).weaken (fun _ _ _ _ => trivial)⟩⟩ rfl hn hl.1 hst (lv_room hst8) hd ⟨hc, hs⟩) hS (fun q _ h => h9 q h) h9 (fun r1 u t H1 locs1 ht hvm hw hB hz1 hk1 hS1 => ?_)
  obtain ⟨rfl, rfl⟩ := hw
  exact k H1 locs1 ls (by have hB2 : va_P g.1 vwCl (wd g _) t.heap := hB; rw [ht] at hB2; exact hB2) hS1 hl
theorem z_callSv {maxL n index : Nat} {y : MethodName} {ws1 ws2 : List Cond} {rm1 : Room} {As : List Value} {bytes : ByteArray} {ret : Option FieldType} {st0 : List Value} {M1 : MM} (C : zC g x l own cc ws rm n0) (hM : zMv l y ws1 rm1 As g M M1) (hst : st0 = As.reverse ++ st) (hG : GoodIn ws (va_wsS own index y ws1)) (hw : ws1 = Cond.code y bytes maxL ret :: ws2) (hrc : rm1.cells = 0) (hrs : rm1.slots = 0) (hy : y.cls ≠ "java/lang/invoke/MethodHandle" ∧ y.cls ≠ "java/lang/invoke/VarHandle" ∧ (parseMethodDescriptor y.desc).map (fun d => d.parameters.length) = some n) (hn : As.length = n) (hR : rm1.frames + 1 ≤ rm.frames ∧ 8 + (maxL + 11) + rm1.locals ≤ rm.locals) (hst8 : (st.map fun v => v.category).sum ≤ 8) (hd : decode cc pc = .ok (.invokestatic index, 3)) (k : zJ g x M1 (pc + 3) lv st) : zJ g x M pc lv (st0) := by
  obtain ⟨p, l, e, R, s, m, args, below, meth, c, A, nL, cells, slots, Q⟩ := x
  obtain ⟨rfl, rfl, rfl, hx, hb, hml, hown, hts, hK, hD, hA, hc, hs⟩ := C
  intro H locs ls hP hS hl
  have h9 : ∀ q, va_A (wd g M) H.size q → A q := fun q h => by
    rcases h with ⟨k, e, h⟩ | h
    · exact (hD M).2 k (q, e) h
    · exact hA q (Nat.le_trans hS.1 h)
  refine va_callv (va_runS (As := As) (rest := st) ⟨hx, hb, hml, hown, hts⟩ (hM H.size) (va_cwS n hts hG hw hrc hrs hy hR) ⟨zU_blind _ g M _, fun U hU hW => ⟨rfl, by rw [hU], by rw [hU]; exact hP, va_K.moved hW.alike hK, (hD M).weaken (fun _ _ _ _ => trivial)⟩⟩ rfl hn hl.1 hst (lv_room hst8) hd ⟨hc, hs⟩) hS (fun q _ h => h9 q h) h9 (fun u t H1 locs1 ht hvm hw hB hz1 hk1 hS1 => ?_)
  obtain rfl := hw
  exact k H1 locs1 ls (by have hB2 : va_P g.1 vwCl (wd g _) t.heap := hB; rw [ht] at hB2; exact hB2) hS1 hl
theorem z_iret {r : Int32} (C : zC g x l own cc ws rm n0) (E : zRi g x .int r M) (hd : decode cc pc = .ok (.ireturn, 1)) : zJ g x M pc lv [.int r] := by
  obtain ⟨p, l, e, R, s, m, args, below, meth, c, A, nL, cells, slots, Q⟩ := x
  obtain ⟨rfl, rfl, rfl, hx, hb, hml, hown, hts, hK, hD, hA, hc, hs⟩ := C
  obtain ⟨hr, hlk, rfl, rfl, rfl⟩ := E
  intro H locs ls hP hS hl
  exact W.iret hx hb hr (fun t ht hW => ⟨⟨r, M, rfl, ⟨rfl, rfl⟩, by show va_P g.1 vwCl (wd g M) t.heap; rw [ht]; exact hP⟩, hS.F ht⟩) hS.2.2 hd hlk
theorem z_zret {r : Int32} (C : zC g x l own cc ws rm n0) (E : zRi g x .boolean r M) (hz : r = 0 ∨ r = 1) (hd : decode cc pc = .ok (.ireturn, 1)) : zJ g x M pc lv [.int r] := by
  obtain ⟨p, l, e, R, s, m, args, below, meth, c, A, nL, cells, slots, Q⟩ := x
  obtain ⟨rfl, rfl, rfl, hx, hb, hml, hown, hts, hK, hD, hA, hc, hs⟩ := C
  obtain ⟨hr, hlk, rfl, rfl, rfl⟩ := E
  intro H locs ls hP hS hl
  exact W.zret hx hb hr (by rcases hz with rfl | rfl <;> rfl) (fun t ht hW => ⟨⟨r, M, rfl, ⟨rfl, rfl⟩, by show va_P g.1 vwCl (wd g M) t.heap; rw [ht]; exact hP⟩, hS.F ht⟩) hS.2.2 hd hlk
theorem z_vret (C : zC g x l own cc ws rm n0) (E : zRv g x M) (hd : decode cc pc = .ok (.return_, 1)) : zJ g x M pc lv [] := by
  obtain ⟨p, l, e, R, s, m, args, below, meth, c, A, nL, cells, slots, Q⟩ := x
  obtain ⟨rfl, rfl, rfl, hx, hb, hml, hown, hts, hK, hD, hA, hc, hs⟩ := C
  obtain ⟨hr, hlk, rfl, rfl, rfl⟩ := E
  intro H locs ls hP hS hl
  exact W.vret hx hb hr (fun t ht hW => ⟨⟨M, rfl, rfl, by show va_P g.1 vwCl (wd g M) t.heap; rw [ht]; exact hP⟩, hS.F ht⟩) hS.2.2 hd hlk
theorem z_sub (ks : List Nat) {lv2 : List (Nat × Value)} (h : lv_pick lv ks = lv2) (k : zJ g x M pc lv2 st) : zJ g x M pc lv st := by
  obtain ⟨p, l, e, R, s, m, args, below, meth, c, A, nL, cells, slots, Q⟩ := x
  exact fun H locs ls hP hS hl => k H locs ls hP hS (lv_sub hl ks h)
end ZROWS
