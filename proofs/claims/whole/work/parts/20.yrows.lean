def yJ (D : va_G) (x : Cx) (w : va_W) (kc ks pc : Nat) (lv : List (Nat × Value)) (st : List Value) : Prop := match x with
  | (p, l, e, R, s, m, args, below, meth, c, A, nL, _, _, Q) => ∀ (H : Heap) (locs : List Loc) (ls : Array Slot), va_P D vwCl w H → va_D A w → va_S A s.heap H locs → lv_has ls nL lv → W p l e R s m args below meth c H locs kc ks Q (F0 m pc ls st)
def yC (D : va_G) (cI cZ : ClassId) (x : Cx) (l0 : Launch) (own : String) (cc : ByteArray) (ws : List Cond) (rm : Room) (n0 : Nat) : Prop := match x with
  | (p, l, _, R, s, m, args, _, _, c, A, nL, _, _, _) => l = l0 ∧ R = rm ∧ nL = n0 ∧ p.tables.exec = Jvm.exec ∧ c.code = cc ∧ c.maxLocals = nL ∧ s.vm.findClass own = some m.cls ∧ (∀ w ∈ ws, w.before args s = true) ∧ va_K D vwCl [(cI, .int), (cZ, .boolean)] s ∧ (∀ q, s.heap.size ≤ q → A q)
def yN (x : Cx) : Prop := match x with
  | (_, _, _, _, _, _, _, _, meth, _, _, _, _, _, _) => meth.name = "<init>"
def yB (D : va_G) (A : Nat → Prop) (w1 : (Nat → Nat) → va_W) (u : Nat → Nat) (t : State) : Prop := va_P D vwCl (w1 u) t.heap ∧ va_D A (w1 u)
def yR (D : va_G) (x : Cx) (w1 : (Nat → Nat) → va_W) (mc ms : Nat) : Prop := match x with
  | (_, _, _, _, s, _, args, below, meth, _, A, _, _, _, Q) => meth.sig.returnType = none ∧ meth.locks = false ∧ Q = MQ below (va_Qv (fun (_ : Nat → Nat) => True) (yB D A w1) A) args s mc ms A
def yU (D : va_G) (cI cZ : ClassId) (w0 : va_W) (sz : Nat) : State → Prop := fun U => U.heap.size = sz ∧ va_P D vwCl w0 U.heap ∧ va_K D vwCl [(cI, .int), (cZ, .boolean)] U ∧ va_D (fun _ => True) w0
def yM (l : Launch) (y : MethodName) (ws : List Cond) (rm : Room) (As : List Value) (D : va_G) (cI cZ : ClassId) (w0 : va_W) (w1 : (Nat → Nat) → va_W) (mc ms : Nat) : Prop := ∀ sz : Nat, Met l y ws rm (va_Pc As (yU D cI cZ w0 sz)) (va_Qv (fun (_ : Nat → Nat) => True) (yB D (va_A w0 sz) w1) (va_A w0 sz)) mc ms (va_A w0 sz)
theorem yU_blind (As : List Value) (D : va_G) (cI cZ : ClassId) (w0 : va_W) (sz : Nat) : FrameBlind (va_Pc As (yU D cI cZ w0 sz)) := by
  intro a U gg mk q
  obtain ⟨q0, q1, qP, qK, qD⟩ := q
  exact ⟨q0, q1, qP, va_K.moved (u := U) (U := U.calling gg mk a) (Vm.Alike.refl U.vm) qK, qD⟩
set_option maxHeartbeats 4000000 in
theorem yM_of {l : Launch} {y : MethodName} {ws ws' : List Cond} {rm : Room} {As : List Value} {D : va_G} {cI cZ : ClassId} {w0 : va_W} {w1 : (Nat → Nat) → va_W} {mc ms : Nat} {cc : ByteArray} {maxL : Nat} (hy : plainName y.cls = true) (hi : y.name = "<init>") (hw : ws = Cond.code y cc maxL none :: ws') (hn : (lg_sl As).length ≤ maxL)
    (body : ∀ x : Cx, yC D cI cZ x l y.cls cc ws rm maxL → yN x → yR D x w1 mc ms → yJ D x w0 0 0 0 (lv_args 0 As) []) : yM l y ws rm As D cI cZ w0 w1 mc ms := by
  intro sz
  refine Met.ofW (cc := cc) (maxL := maxL) (ret := none) hy hw ?_
  intro p e s m args below meth c s₁ B hml hv
  obtain ⟨rfl, hsz, hP, hK, hD0⟩ := hv
  subst hsz
  have hl := lv_entry As (n := maxL) hn
  rw [lg_entry_eq]
  generalize (lg_sl As ++ List.replicate (maxL - (lg_sl As).length) Slot.unset).toArray = ls at hl ⊢
  exact body (p, l, e, (headSpec ws rm).room, s, m, As.toArray, below, meth, c, va_A w0 s.heap.size, maxL, 0, 0, _) ⟨rfl, rfl, rfl, B.exec, B.bytes, hml, findClass_of_methodNamed B.named, atoms_spec (ws := ws) B.pre, hK, fun q h => Or.inr h⟩ ((name_of_methodNamed B.named B.method).1.trans hi) ⟨B.returns, B.notSynchronized, rfl⟩ s.heap [] ls hP hD0.self va_S.rf hl
section YROWS
variable {D : va_G} {cI cZ : ClassId} {x : Cx} {w : va_W} {kc ks : Nat} {pc : Nat} {lv : List (Nat × Value)} {st : List Value} {l : Launch} {own : String} {cc : ByteArray} {ws : List Cond} {rm : Room} {n0 : Nat}
theorem y_iconst {n : Int} (v : Int32) (C : yC D cI cZ x l own cc ws rm n0) (hd : decode cc pc = .ok (.iconst n, 1)) (hv : Int32.ofInt n = v) (k : yJ D x w kc ks (pc + 1) lv (.int v :: st)) : yJ D x w kc ks pc lv (st) := by
  obtain ⟨p, l, e, R, s, m, args, below, meth, c, A, nL, cells, slots, Q⟩ := x
  obtain ⟨rfl, rfl, rfl, hx, hb, hml, hown, hts, hK, hA⟩ := C
  intro H locs ls hP hD hS hl
  exact lv_iconst hx hb hd hv (k H locs ls hP hD hS hl)
theorem y_bipush {n : Int} (v : Int32) (C : yC D cI cZ x l own cc ws rm n0) (hd : decode cc pc = .ok (.bipush n, 2)) (hv : (Int8.ofInt n).toInt32 = v) (k : yJ D x w kc ks (pc + 2) lv (.int v :: st)) : yJ D x w kc ks pc lv (st) := by
  obtain ⟨p, l, e, R, s, m, args, below, meth, c, A, nL, cells, slots, Q⟩ := x
  obtain ⟨rfl, rfl, rfl, hx, hb, hml, hown, hts, hK, hA⟩ := C
  intro H locs ls hP hD hS hl
  exact lv_bipush hx hb hd hv (k H locs ls hP hD hS hl)
theorem y_sipush {n : Int} (v : Int32) (C : yC D cI cZ x l own cc ws rm n0) (hd : decode cc pc = .ok (.sipush n, 3)) (hv : (Int16.ofInt n).toInt32 = v) (k : yJ D x w kc ks (pc + 3) lv (.int v :: st)) : yJ D x w kc ks pc lv (st) := by
  obtain ⟨p, l, e, R, s, m, args, below, meth, c, A, nL, cells, slots, Q⟩ := x
  obtain ⟨rfl, rfl, rfl, hx, hb, hml, hown, hts, hK, hA⟩ := C
  intro H locs ls hP hD hS hl
  exact lv_sipush hx hb hd hv (k H locs ls hP hD hS hl)
theorem y_iload_n {i : Fin 4} {u : Int32} (C : yC D cI cZ x l own cc ws rm n0) (hd : decode cc pc = .ok (.iload_n i, 1)) (hg : lvg lv (i : Nat) = some (.int u)) (k : yJ D x w kc ks (pc + 1) lv (.int u :: st)) : yJ D x w kc ks pc lv (st) := by
  obtain ⟨p, l, e, R, s, m, args, below, meth, c, A, nL, cells, slots, Q⟩ := x
  obtain ⟨rfl, rfl, rfl, hx, hb, hml, hown, hts, hK, hA⟩ := C
  intro H locs ls hP hD hS hl
  exact lv_iload_n hx hb hd rfl (lvg_at hl hg) (k H locs ls hP hD hS hl)
theorem y_aload_n {i : Fin 4} {u : Nat} (C : yC D cI cZ x l own cc ws rm n0) (hd : decode cc pc = .ok (.aload_n i, 1)) (hg : lvg lv (i : Nat) = some (.ref u)) (k : yJ D x w kc ks (pc + 1) lv (.ref u :: st)) : yJ D x w kc ks pc lv (st) := by
  obtain ⟨p, l, e, R, s, m, args, below, meth, c, A, nL, cells, slots, Q⟩ := x
  obtain ⟨rfl, rfl, rfl, hx, hb, hml, hown, hts, hK, hA⟩ := C
  intro H locs ls hP hD hS hl
  exact lv_aload_n hx hb hd rfl (lvg_at hl hg) (k H locs ls hP hD hS hl)
theorem y_astore_n {i : Fin 4} {u : Nat} (lv2 : List (Nat × Value)) (C : yC D cI cZ x l own cc ws rm n0) (hd : decode cc pc = .ok (.astore_n i, 1)) (hn : (i : Nat) < n0) (hg : lvs lv (i : Nat) (.ref u) = lv2) (k : yJ D x w kc ks (pc + 1) lv2 (st)) : yJ D x w kc ks pc lv (.ref u :: st) := by
  obtain ⟨p, l, e, R, s, m, args, below, meth, c, A, nL, cells, slots, Q⟩ := x
  obtain ⟨rfl, rfl, rfl, hx, hb, hml, hown, hts, hK, hA⟩ := C
  intro H locs ls hP hD hS hl
  exact lv_astore_n hx hb hd rfl hl hn hg (fun ls2 hl2 => k H locs ls2 hP hD hS hl2)
theorem y_istore_n {i : Fin 4} {u : Int32} (lv2 : List (Nat × Value)) (C : yC D cI cZ x l own cc ws rm n0) (hd : decode cc pc = .ok (.istore_n i, 1)) (hn : (i : Nat) < n0) (hg : lvs lv (i : Nat) (.int u) = lv2) (k : yJ D x w kc ks (pc + 1) lv2 (st)) : yJ D x w kc ks pc lv (.int u :: st) := by
  obtain ⟨p, l, e, R, s, m, args, below, meth, c, A, nL, cells, slots, Q⟩ := x
  obtain ⟨rfl, rfl, rfl, hx, hb, hml, hown, hts, hK, hA⟩ := C
  intro H locs ls hP hD hS hl
  exact lv_istore_n hx hb hd rfl hl hn hg (fun ls2 hl2 => k H locs ls2 hP hD hS hl2)
theorem y_imul {u v : Int32} (z : Int32) (C : yC D cI cZ x l own cc ws rm n0) (hd : decode cc pc = .ok (.imul, 1)) (hz : u * v = z) (k : yJ D x w kc ks (pc + 1) lv (.int z :: st)) : yJ D x w kc ks pc lv (.int v :: .int u :: st) := by
  obtain ⟨p, l, e, R, s, m, args, below, meth, c, A, nL, cells, slots, Q⟩ := x
  obtain ⟨rfl, rfl, rfl, hx, hb, hml, hown, hts, hK, hA⟩ := C
  intro H locs ls hP hD hS hl
  exact lv_imul hx hb hd (hz ▸ k H locs ls hP hD hS hl)
theorem y_dup {va : Value} (C : yC D cI cZ x l own cc ws rm n0) (hd : decode cc pc = .ok (.dup, 1)) (hva : va.category = 1) (k : yJ D x w kc ks (pc + 1) lv (va :: va :: st)) : yJ D x w kc ks pc lv (va :: st) := by
  obtain ⟨p, l, e, R, s, m, args, below, meth, c, A, nL, cells, slots, Q⟩ := x
  obtain ⟨rfl, rfl, rfl, hx, hb, hml, hown, hts, hK, hA⟩ := C
  intro H locs ls hP hD hS hl
  exact lv_dup hx hb hd hva (k H locs ls hP hD hS hl)
theorem y_max {u v : Int32} {index : Nat} (z : Int32) (C : yC D cI cZ x l own cc ws rm n0) (w1 : Cond.methodLink own index Lib.Math.max.name ∈ ws) (w2 : Cond.static Lib.Math.max.name ∈ ws) (w3 : Cond.initialized "java/lang/Math" ∈ ws) (w4 : Cond.code Lib.Math.max.name Lib.Math.max.code 2 (some .int) ∈ ws) (hf : 1 ≤ rm.frames) (hlo : (st.map fun v => v.category).sum + 13 ≤ rm.locals) (hc : kc ≤ rm.cells) (hs : ks ≤ rm.slots) (hd : decode cc pc = .ok (.invokestatic index, 3)) (hz : (if u < v then v else u) = z) (k : yJ D x w kc ks (pc + 3) lv (.int z :: st)) : yJ D x w kc ks pc lv (.int v :: .int u :: st) := by
  obtain ⟨p, l, e, R, s, m, args, below, meth, c, A, nL, cells, slots, Q⟩ := x
  obtain ⟨rfl, rfl, rfl, hx, hb, hml, hown, hts, hK, hA⟩ := C
  intro H locs ls hP hD hS hl
  exact va_mmax hx hb (by rw [hml]; exact hl.1.symm) hown (hts _ w1) (hts _ w2) (hts _ w3) (hts _ w4) hf hlo hc hs hd (hz ▸ k H locs ls hP hD hS hl)
theorem y_obj {idx a : Nat} (C : yC D cI cZ x l own cc ws rm n0) (hlink : Cond.methodLink own idx Lib.objectInit ∈ ws) (hinst : Cond.instanceMethod Lib.objectInit ∈ ws) (hcode : Cond.code Lib.objectInit ⟨#[0xb1]⟩ 1 none ∈ ws) (hd : decode cc pc = .ok (.invokespecial idx, 3)) (hf : 1 ≤ rm.frames) (hlo : (st.map fun v => v.category).sum + 12 ≤ rm.locals) (k : yJ D x w kc ks (pc + 3) lv (st)) : yJ D x w kc ks pc lv (.ref a :: st) := by
  obtain ⟨p, l, e, R, s, m, args, below, meth, c, A, nL, cells, slots, Q⟩ := x
  obtain ⟨rfl, rfl, rfl, hx, hb, hml, hown, hts, hK, hA⟩ := C
  intro H locs ls hP hD hS hl
  exact W.objInit hx hb hown (hts _ hlink) (hts _ hinst) (hts _ hcode) rfl (by rw [hml]; exact hl.1) rfl hd hf (by show 2 * 0 + _ + 12 ≤ _; omega) (k H locs ls hP hD hS hl)
theorem y_new {ci index N : Nat} {CC : String} {T : u_T} (ty0 : Nat → FieldType) {fs : List Value} (w2 : Nat → va_W) (C : yC D cI cZ x l own cc ws rm n0) (hin : ∀ q ∈ u_ws CC T N, q ∈ ws) (hty : ∀ k, k < N → parseFieldDescriptor (T k).2.2.1 = some (ty0 k)) (h1 : Cond.classLink own index CC ∈ ws) (h2 : Cond.instantiable CC N ∈ ws) (h3 : Cond.initialized CC ∈ ws) (hcl : vwCl[ci]? = some (CC, T, N)) (hfs : ∀ j, j < N → defaultValue (ty0 j) = vp_V fs j) (hc : kc + 1 ≤ rm.cells) (hs : ks + N ≤ rm.slots) (hd : decode cc pc = .ok (.new index, 3)) (hw : ∀ q, w ++ [(q, .inr (ci, fs))] = w2 q) (k : ∀ q : Nat, yJ D x (w2 q) (kc + 1) (ks + N) (pc + 3) lv (.ref q :: st)) : yJ D x w kc ks pc lv (st) := by
  obtain ⟨p, l, e, R, s, m, args, below, meth, c, A, nL, cells, slots, Q⟩ := x
  obtain ⟨rfl, rfl, rfl, hx, hb, hml, hown, hts, hK, hA⟩ := C
  intro H locs ls hP hD hS hl
  refine va_new hx hb hts hin ty0 hty hown (hts _ h1) (hts _ h2) (hts _ h3) hK hP hD hS hA hcl hfs hc hs hd (fun q H1 hP1 hD1 hS1 => ?_)
  exact k q H1 locs ls (hw q ▸ hP1) (hw q ▸ hD1) hS1 hl
theorem y_newi {n : Int32} (N : Nat) (w2 : Nat → va_W) (C : yC D cI cZ x l own cc ws rm n0) (harr : Cond.arrayClass .int ∈ ws) (hn : ¬ n < 0) (hN : n.toNatClampNeg = N) (hb5 : N * componentBytes .int ≤ 536870912) (hc : kc + 1 ≤ rm.cells) (hs : ks + N ≤ rm.slots) (hd : decode cc pc = .ok (.newarray .int, 2)) (hw : ∀ q, w ++ [(q, .inl (cI, N, .inl (fun _ => 0)))] = w2 q) (k : ∀ q : Nat, yJ D x (w2 q) (kc + 1) (ks + N) (pc + 2) lv (.ref q :: st)) : yJ D x w kc ks pc lv (.int n :: st) := by
  obtain ⟨p, l, e, R, s, m, args, below, meth, c, A, nL, cells, slots, Q⟩ := x
  obtain ⟨rfl, rfl, rfl, hx, hb, hml, hown, hts, hK, hA⟩ := C
  intro H locs ls hP hD hS hl
  refine va_newa (atype := .int) (ty := .int) (a0 := (N, .inl (fun _ => 0))) hx hb (hts _ harr) rfl hK hP hD hS hA (fun _ => rfl) hn hN hb5 hc hs hd (fun q cA H1 hK1 hP1 hD1 hS1 => ?_)
  have e1 : s.vm.findClass ("[" ++ FieldType.int.toString) = some cI := (hK.2 0 _ rfl).2
  have e2 : s.vm.findClass ("[" ++ FieldType.int.toString) = some cA := (hK1.2 2 _ rfl).2
  have e3 : cA = cI := Option.some.inj (e2.symm.trans e1)
  subst e3
  exact k q H1 locs ls (hw q ▸ hP1) (hw q ▸ hD1) hS1 hl
theorem y_newz {n : Int32} (N : Nat) (w2 : Nat → va_W) (C : yC D cI cZ x l own cc ws rm n0) (harr : Cond.arrayClass .boolean ∈ ws) (hn : ¬ n < 0) (hN : n.toNatClampNeg = N) (hb5 : N * componentBytes .boolean ≤ 536870912) (hc : kc + 1 ≤ rm.cells) (hs : ks + N ≤ rm.slots) (hd : decode cc pc = .ok (.newarray .boolean, 2)) (hw : ∀ q, w ++ [(q, .inl (cZ, N, .inl (fun _ => 0)))] = w2 q) (k : ∀ q : Nat, yJ D x (w2 q) (kc + 1) (ks + N) (pc + 2) lv (.ref q :: st)) : yJ D x w kc ks pc lv (.int n :: st) := by
  obtain ⟨p, l, e, R, s, m, args, below, meth, c, A, nL, cells, slots, Q⟩ := x
  obtain ⟨rfl, rfl, rfl, hx, hb, hml, hown, hts, hK, hA⟩ := C
  intro H locs ls hP hD hS hl
  refine va_newa (atype := .boolean) (ty := .boolean) (a0 := (N, .inl (fun _ => 0))) hx hb (hts _ harr) rfl hK hP hD hS hA (fun _ => rfl) hn hN hb5 hc hs hd (fun q cA H1 hK1 hP1 hD1 hS1 => ?_)
  have e1 : s.vm.findClass ("[" ++ FieldType.boolean.toString) = some cZ := (hK.2 1 _ rfl).2
  have e2 : s.vm.findClass ("[" ++ FieldType.boolean.toString) = some cA := (hK1.2 2 _ rfl).2
  have e3 : cA = cZ := Option.some.inj (e2.symm.trans e1)
  subst e3
  exact k q H1 locs ls (hw q ▸ hP1) (hw q ▸ hD1) hS1 hl
theorem y_putF {a ci index N : Nat} {CC : String} {T : u_T} (ty0 : Nat → FieldType) {fs : List Value} {v : Value} (w2 : va_W) (C : yC D cI cZ x l own cc ws rm n0) (hin : ∀ q ∈ u_ws CC T N, q ∈ ws) (hty : ∀ k, k < N → parseFieldDescriptor (T k).2.2.1 = some (ty0 k)) (hnm : ∀ a, a < N → ∀ b, b < N → a ≠ b → (T a).2.1 ≠ (T b).2.1) (q0 : Nat) (he : w[q0]? = some (a, .inr (ci, fs))) (hcl : vwCl[ci]? = some (CC, T, N)) (j : Nat) (hj : j < N) (hlk : Cond.fieldLink own index (T j).1 (T j).2.1 (T j).2.2.1 ∈ ws) (hfin : (T j).2.2.2 = true) (hI : yN x) (hdecl : (T j).1 = own) (hn : narrow (ty0 j) v = v) (hfit : fits (ty0 j) v = true) (hlen : j < fs.length) (hd : decode cc pc = .ok (.putfield index, 3)) (hw : w.set q0 (a, .inr (ci, fs.set j v)) = w2) (k : yJ D x w2 kc ks (pc + 3) lv st) : yJ D x w kc ks pc lv (v :: .ref a :: st) := by
  obtain ⟨p, l, e, R, s, m, args, below, meth, c, A, nL, cells, slots, Q⟩ := x
  obtain ⟨rfl, rfl, rfl, hx, hb, hml, hown, hts, hK, hA⟩ := C
  intro H locs ls hP hD hS hl
  refine va_putF hx hb hts hin ty0 hty hnm hown hK hP hD hS q0 he hcl j hj (hts _ hlk) (fun _ h9 => h9) hfin hI hdecl (hty j hj) hn hfit hlen hd (fun H1 locs1 hP1 hD1 hS1 => ?_)
  exact k H1 locs1 ls (hw ▸ hP1) (hw ▸ hD1) hS1 hl
theorem y_put {a ci index N : Nat} {CC : String} {T : u_T} (ty0 : Nat → FieldType) {fs : List Value} {v : Value} (w2 : va_W) (C : yC D cI cZ x l own cc ws rm n0) (hin : ∀ q ∈ u_ws CC T N, q ∈ ws) (hty : ∀ k, k < N → parseFieldDescriptor (T k).2.2.1 = some (ty0 k)) (hnm : ∀ a, a < N → ∀ b, b < N → a ≠ b → (T a).2.1 ≠ (T b).2.1) (q0 : Nat) (he : w[q0]? = some (a, .inr (ci, fs))) (hcl : vwCl[ci]? = some (CC, T, N)) (j : Nat) (hj : j < N) (hlk : Cond.fieldLink own index (T j).1 (T j).2.1 (T j).2.2.1 ∈ ws) (hfin : (T j).2.2.2 = false) (hn : narrow (ty0 j) v = v) (hfit : fits (ty0 j) v = true) (hlen : j < fs.length) (hd : decode cc pc = .ok (.putfield index, 3)) (hw : w.set q0 (a, .inr (ci, fs.set j v)) = w2) (k : yJ D x w2 kc ks (pc + 3) lv st) : yJ D x w kc ks pc lv (v :: .ref a :: st) := by
  obtain ⟨p, l, e, R, s, m, args, below, meth, c, A, nL, cells, slots, Q⟩ := x
  obtain ⟨rfl, rfl, rfl, hx, hb, hml, hown, hts, hK, hA⟩ := C
  intro H locs ls hP hD hS hl
  refine va_put hx hb hts hin ty0 hty hnm hown hK hP hD hS q0 he hcl j hj (hts _ hlk) (fun _ h9 => h9) hfin (hty j hj) hn hfit hlen hd (fun H1 locs1 hP1 hD1 hS1 => ?_)
  exact k H1 locs1 ls (hw ▸ hP1) (hw ▸ hD1) hS1 hl
theorem y_get {a ci index N : Nat} {CC : String} {T : u_T} {fs : List Value} {v : Value} (C : yC D cI cZ x l own cc ws rm n0) (hin : ∀ q ∈ u_ws CC T N, q ∈ ws) (q0 : Nat) (he : w[q0]? = some (a, .inr (ci, fs))) (hcl : vwCl[ci]? = some (CC, T, N)) (j : Nat) (hj : j < N) (hlk : Cond.fieldLink own index (T j).1 (T j).2.1 (T j).2.2.1 ∈ ws) (hv : fs[j]? = some v) (hd : decode cc pc = .ok (.getfield index, 3)) (k : yJ D x w kc ks (pc + 3) lv (v :: st)) : yJ D x w kc ks pc lv (.ref a :: st) := by
  obtain ⟨p, l, e, R, s, m, args, below, meth, c, A, nL, cells, slots, Q⟩ := x
  obtain ⟨rfl, rfl, rfl, hx, hb, hml, hown, hts, hK, hA⟩ := C
  intro H locs ls hP hD hS hl
  exact va_get hx hb hts hin hown hK hP q0 he hcl j hj (hts _ hlk) (fun _ h9 => h9) hv hd (k H locs ls hP hD hS hl)
theorem y_callI {maxL n index b mc ms : Nat} {y : MethodName} {ws1 ws2 : List Cond} {rm1 : Room} {As : List Value} {bytes : ByteArray} {st0 : List Value} {w0 wr : va_W} {w1 : (Nat → Nat) → va_W} (isC isR : List Nat) (wn : (Nat → Nat) → va_W) (C : yC D cI cZ x l own cc ws rm n0) (hM : yM l y ws1 rm1 (.ref b :: As) D cI cZ w0 w1 mc ms) (hst : st0 = As.reverse ++ .ref b :: st) (hG : GoodIn ws ws1) (hw : ws1 = Cond.code y bytes maxL none :: ws2) (hrc : rm1.cells = mc) (hrs : rm1.slots = ms) (hini : Cond.initialized y.cls ∈ ws) (hlk : Cond.methodLink own index y ∈ ws) (hins : Cond.instanceMethod y ∈ ws) (hy1 : y.name = "<init>") (hy : y.cls ≠ "java/lang/invoke/MethodHandle" ∧ y.cls ≠ "java/lang/invoke/VarHandle" ∧ (parseMethodDescriptor y.desc).map (fun d => d.parameters.length) = some n) (hn : As.length = n) (hR : rm1.frames + 1 ≤ rm.frames ∧ 8 + (maxL + 11) + rm1.locals ≤ rm.locals) (hst8 : (st.map fun v => v.category).sum ≤ 8) (hd : decode cc pc = .ok (.invokespecial index, 3)) (hcs : kc + mc ≤ rm.cells ∧ ks + ms ≤ rm.slots) (hC : isC.map (fun i => w[i]?) = w0.map some) (hRr : isR.map (fun i => w[i]?) = wr.map some) (hnd : va_nd isR = true) (hndC : va_nd isC = true) (hdis : ∀ i ∈ isR, i ∉ isC) (hwn : ∀ u, wr ++ w1 u = wn u) (k : ∀ u : Nat → Nat, yJ D x (wn u) (kc + mc) (ks + ms) (pc + 3) lv st) : yJ D x w kc ks pc lv (st0) := by
  obtain ⟨p, l, e, R, s, m, args, below, meth, c, A, nL, cells, slots, Q⟩ := x
  obtain ⟨rfl, rfl, rfl, hx, hb, hml, hown, hts, hK, hA⟩ := C
  intro H locs ls hP hD hS hl
  have at' : ∀ (kk : Nat) (q : Nat × va_E), w0[kk]? = some q → ∃ i, isC[kk]? = some i ∧ w[i]? = some q := by
    intro kk q hq
    have h1 : (isC.map (fun i => w[i]?))[kk]? = some (some q) := by rw [hC, List.getElem?_map, hq]; rfl
    rw [List.getElem?_map] at h1
    cases hi : isC[kk]? with
    | none => rw [hi] at h1; cases h1
    | some i => rw [hi] at h1; exact ⟨i, rfl, Option.some.inj h1⟩
  have hPc : va_P D vwCl w0 H := fun kk q hq => by
    obtain ⟨i, -, h2⟩ := at' kk q hq
    exact hP i q h2
  have hDc : va_D A w0 := hD.sub isC hndC hC
  have hFc := va_free (wc := w0) hD hS hA isC hC
  refine va_callv (va_runI (As := As) (rest := st) ⟨hx, hb, hml, hown, hts⟩ (hM H.size) (cwI n hts hG hw hrc hrs (hts _ hini) (hts _ hlk) (hts _ hins) hy1 hy hR) ⟨yU_blind _ D cI cZ w0 _, fun U hU hW => ⟨rfl, by rw [hU], by rw [hU]; exact hPc, va_K.moved hW.alike hK, hDc.weaken (fun _ _ _ _ => trivial)⟩⟩ rfl hn hl.1 hst (lv_room hst8) hd hcs) hS (fun q _ h => hFc q h) hFc (fun u t H1 locs1 ht hvm hw9 hB hz1 hk1 hS1 => ?_)
  obtain ⟨hP1, hD1⟩ := hB
  rw [ht] at hP1
  obtain ⟨hP2, hD2⟩ := va_join (wr := wr) (w1 := w1 u) hP hD isC isR hC hRr hnd hdis hk1 hFc hP1 hD1
  exact k u H1 locs1 ls (hwn u ▸ hP2) (hwn u ▸ hD2) hS1 hl
theorem y_vret {w1 : (Nat → Nat) → va_W} (u : Nat → Nat) (C : yC D cI cZ x l own cc ws rm n0) (E : yR D x w1 kc ks) (hd : decode cc pc = .ok (.return_, 1)) (hw : w = w1 u) : yJ D x w kc ks pc lv [] := by
  obtain ⟨p, l, e, R, s, m, args, below, meth, c, A, nL, cells, slots, Q⟩ := x
  obtain ⟨rfl, rfl, rfl, hx, hb, hml, hown, hts, hK, hA⟩ := C
  obtain ⟨hr, hlk, rfl⟩ := E
  intro H locs ls hP hD hS hl
  subst hw
  exact W.vret hx hb hr (fun t ht hW => ⟨⟨u, rfl, trivial, by rw [ht]; exact hP, hD⟩, hS.F ht⟩) hS.2.2 hd hlk
theorem y_widen {kc2 ks2 : Nat} (h1 : kc ≤ kc2) (h2 : ks ≤ ks2) (k : yJ D x w kc2 ks2 pc lv st) : yJ D x w kc ks pc lv st := by
  obtain ⟨p, l, e, R, s, m, args, below, meth, c, A, nL, cells, slots, Q⟩ := x
  exact fun H locs ls hP hD hS hl => W.widen h1 h2 (k H locs ls hP hD hS hl)
end YROWS
