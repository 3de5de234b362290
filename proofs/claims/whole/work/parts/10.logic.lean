/-! THE LIGHT JUDGEMENT: bwR: "from here, with these locals, this stack, these cells, the method goes to its end". All that a row of the kit asks of the context is one hypothesis (bwC). -/
def bw_all : List Cond := lw_tbl.filter goodWord
abbrev bwG : Type := va_G × ClassId × ClassId × ClassId
abbrev bw_tys (g : bwG) : List (ClassId × FieldType) := [(g.2.1, .int), (g.2.2.1, .char), (g.2.2.2, .object RX0)]
def bw_isNest : Cond → Bool
  | .methodLinkNest _ _ _ _ => true
  | _ => false
def bw_nest : List Cond := tables_1.filter bw_isNest
theorem bw_mem {w : Cond} (k : Nat) (h : lw_tbl[k]? = some w) (hg : goodWord w = true) : w ∈ bw_all := List.mem_filter.mpr ⟨List.mem_of_getElem? h, hg⟩
theorem bw_memN {w : Cond} (k : Nat) (h : tables_1[k]? = some w) (hg : bw_isNest w = true) : w ∈ bw_nest := List.mem_filter.mpr ⟨List.mem_of_getElem? h, hg⟩
theorem bw_good : GoodIn bw_all bw_all := fun w h => ⟨h, good_of_word (List.mem_filter.mp h).2⟩
def bwN (U : State) : Prop := (∀ w ∈ bw_nest, va_Nw w U) ∧ va_AO RX0 U
def bwC (g : bwG) (cc : ByteArray) (nL : Nat) (own nm : String) (ret : Option FieldType) (p : Program) (s : State) (m : MethodId) (args : Array Value) (meth : Method) (c : Code) : Prop :=
  p.tables.exec = Jvm.exec ∧ c.code = cc ∧ c.maxLocals = nL ∧ s.vm.findClass own = some m.cls ∧ (∀ w ∈ bw_all, w.before args s = true) ∧ meth.sig.returnType = ret ∧ meth.locks = false ∧ meth.name = nm ∧ va_K g.1 vwCl (bw_tys g) s ∧ bwN s
def bwR (l : Launch) (g : bwG) (cc : ByteArray) (nL : Nat) (own nm : String) (ret : Option FieldType) (rm : Room) (PX : State → Array Value → (Nat → Prop) → Prop) (Zf : State → Array Value → List Frame → (Nat → Prop) → State → Prop)
    (pc : Nat) (lv : List (Nat × Value)) (st : List Value) (ws : va_W) (k n : Nat) : Prop :=
  ∀ (p : Program) (e : Env) (s : State) (m : MethodId) (args : Array Value) (below : List Frame) (meth : Method) (c : Code) (A : Nat → Prop) (H : Heap) (locs : List Loc) (ls : Array Slot),
    bwC g cc nL own nm ret p s m args meth c → PX s args A → (∀ q : Nat, s.heap.size ≤ q → A q) → va_P g.1 vwCl ws H → va_D A ws → va_S A s.heap H locs → lv_has ls nL lv →
    W p l e rm s m args below meth c H locs k n (Zf s args below A) (F0 m pc ls st)
def bwQ (g : bwG) (Q : Option Value → va_W → Prop) (A : Nat → Prop) : Array Value → State → Outcome → State → Prop := fun _ st o t => (∃ (r : Option Value) (w : va_W), o = .returned r ∧ Q r w ∧ va_P g.1 vwCl w t.heap ∧ va_D A w) ∧ va_F A st t
def bwZ (g : bwG) (Q : Option Value → va_W → Prop) (mc ms : Nat) : State → Array Value → List Frame → (Nat → Prop) → State → Prop := fun s args below A => MQ below (bwQ g Q A) args s mc ms A
def bwT : State → Array Value → (Nat → Prop) → Prop := fun _ _ _ => True
def bwB (g : bwG) (ws : va_W) (sz : Nat) : State → Prop := fun U => U.heap.size = sz ∧ va_P g.1 vwCl ws U.heap ∧ va_K g.1 vwCl (bw_tys g) U ∧ bwN U ∧ va_D (fun _ => True) ws
/-- a method's contract: the cells ws and the arguments as at its start, Q of its answer and its cells at its end -/
def bwS (l : Launch) (g : bwG) (y : MethodName) (cc : ByteArray) (nL : Nat) (ret : Option FieldType) (rm : Room) (as : List Value) (ws : va_W) (Q : Option Value → va_W → Prop) : Prop :=
  ∀ sz : Nat, Met l y (.code y cc nL ret :: bw_all) rm (va_Pc as (bwB g ws sz)) (bwQ g Q (va_A ws sz)) rm.cells rm.slots (va_A ws sz)
theorem bw_nestW {s U : State} (hW : s.WarmedH U.vm) (h : bwN s) : bwN U := by
  refine ⟨?_, va_AO.moved hW.alike h.2⟩
  intro w hw
  have h1 := h.1 w hw
  have h2 := (List.mem_filter.mp hw).2
  cases w <;> first | exact va_Nw.warmM hW h1 | cases h2
theorem bw_nestC {U : State} {gf : JFrame} {mk : MethodId} {a : Array Value} (h : bwN U) : bwN (U.calling gf mk a) := by
  refine ⟨?_, va_AO.moved (u := U) (U := U.calling gf mk a) (Vm.Alike.refl U.vm) h.2⟩
  intro w hw
  have h1 := h.1 w hw
  have h2 := (List.mem_filter.mp hw).2
  cases w <;> first | exact va_Nw.same rfl rfl h1 | cases h2
theorem bw_blind {g : bwG} {ws : va_W} {sz : Nat} {as : List Value} : FrameBlind (va_Pc as (bwB g ws sz)) := by
  intro a U gf mk q
  obtain ⟨q0, q1, qP, qK, qN, qD⟩ := q
  exact ⟨q0, q1, qP, va_K.moved (u := U) (U := U.calling gf mk a) (Vm.Alike.refl U.vm) qK, bw_nestC qN, qD⟩

section BWR
variable {l : Launch} {g : bwG} {cc : ByteArray} {nL : Nat} {own nm : String} {ret : Option FieldType} {rm : Room} {PX : State → Array Value → (Nat → Prop) → Prop} {Zf : State → Array Value → List Frame → (Nat → Prop) → State → Prop} {pc : Nat} {lv : List (Nat × Value)} {st : List Value} {ws : va_W} {kc ks : Nat}
theorem bw_iconst {n : Int} (v : Int32) (hd : decode cc pc = .ok (.iconst n, 1)) (hv : Int32.ofInt n = v) (k : bwR l g cc nL own nm ret rm PX Zf (pc + 1) lv (.int v :: st) ws kc ks) : bwR l g cc nL own nm ret rm PX Zf pc lv (st) ws kc ks := by
  intro p e s m args below meth c A H locs ls C hX hA hP hD hS hl
  exact lv_iconst C.1 C.2.1 hd hv (k p e s m args below meth c A H locs ls C hX hA hP hD hS hl)
theorem bw_bipush {n : Int} (v : Int32) (hd : decode cc pc = .ok (.bipush n, 2)) (hv : (Int8.ofInt n).toInt32 = v) (k : bwR l g cc nL own nm ret rm PX Zf (pc + 2) lv (.int v :: st) ws kc ks) : bwR l g cc nL own nm ret rm PX Zf pc lv (st) ws kc ks := by
  intro p e s m args below meth c A H locs ls C hX hA hP hD hS hl
  exact lv_bipush C.1 C.2.1 hd hv (k p e s m args below meth c A H locs ls C hX hA hP hD hS hl)
theorem bw_sipush {n : Int} (v : Int32) (hd : decode cc pc = .ok (.sipush n, 3)) (hv : (Int16.ofInt n).toInt32 = v) (k : bwR l g cc nL own nm ret rm PX Zf (pc + 3) lv (.int v :: st) ws kc ks) : bwR l g cc nL own nm ret rm PX Zf pc lv (st) ws kc ks := by
  intro p e s m args below meth c A H locs ls C hX hA hP hD hS hl
  exact lv_sipush C.1 C.2.1 hd hv (k p e s m args below meth c A H locs ls C hX hA hP hD hS hl)
theorem bw_lconst {n : Fin 2} (v : Int64) (hd : decode cc pc = .ok (.lconst n, 1)) (hv : Int64.ofNat (n : Nat) = v) (k : bwR l g cc nL own nm ret rm PX Zf (pc + 1) lv (.long v :: st) ws kc ks) : bwR l g cc nL own nm ret rm PX Zf pc lv (st) ws kc ks := by
  intro p e s m args below meth c A H locs ls C hX hA hP hD hS hl
  exact lv_lconst C.1 C.2.1 hd hv (k p e s m args below meth c A H locs ls C hX hA hP hD hS hl)
theorem bw_ldc {index : Nat} {v : Int32} (hc : Cond.constant own index v ∈ bw_all) (hd : decode cc pc = .ok (.ldc index, 2)) (k : bwR l g cc nL own nm ret rm PX Zf (pc + 2) lv (.int v :: st) ws kc ks) : bwR l g cc nL own nm ret rm PX Zf pc lv (st) ws kc ks := by
  intro p e s m args below meth c A H locs ls C hX hA hP hD hS hl
  exact lv_ldc C.1 C.2.1 C.2.2.2.1 (C.2.2.2.2.1 _ hc) hd (k p e s m args below meth c A H locs ls C hX hA hP hD hS hl)
theorem bw_ldc2 {index : Nat} {v : Int64} (hc : Cond.constantLong own index v ∈ bw_all) (hd : decode cc pc = .ok (.ldc2_w index, 3)) (k : bwR l g cc nL own nm ret rm PX Zf (pc + 3) lv (.long v :: st) ws kc ks) : bwR l g cc nL own nm ret rm PX Zf pc lv (st) ws kc ks := by
  intro p e s m args below meth c A H locs ls C hX hA hP hD hS hl
  exact lv_ldc2 C.1 C.2.1 C.2.2.2.1 (C.2.2.2.2.1 _ hc) hd (k p e s m args below meth c A H locs ls C hX hA hP hD hS hl)
theorem bw_iload_n (j : Nat) {kk : Fin 4} {i : Nat} {x : Int32} (hd : decode cc pc = .ok (.iload_n kk, 1)) (hi : (kk : Nat) = i) (hj : lv[j]? = some (i, .int x)) (k : bwR l g cc nL own nm ret rm PX Zf (pc + 1) lv (.int x :: st) ws kc ks) : bwR l g cc nL own nm ret rm PX Zf pc lv (st) ws kc ks := by
  intro p e s m args below meth c A H locs ls C hX hA hP hD hS hl
  exact lv_iload_n C.1 C.2.1 hd hi (lv_at hl j hj) (k p e s m args below meth c A H locs ls C hX hA hP hD hS hl)
theorem bw_iload (j : Nat) {i : Nat} {x : Int32} (hd : decode cc pc = .ok (.iload i, 2)) (hj : lv[j]? = some (i, .int x)) (k : bwR l g cc nL own nm ret rm PX Zf (pc + 2) lv (.int x :: st) ws kc ks) : bwR l g cc nL own nm ret rm PX Zf pc lv (st) ws kc ks := by
  intro p e s m args below meth c A H locs ls C hX hA hP hD hS hl
  exact lv_iload C.1 C.2.1 hd (lv_at hl j hj) (k p e s m args below meth c A H locs ls C hX hA hP hD hS hl)
theorem bw_lload_n (j : Nat) {kk : Fin 4} {i : Nat} {x : Int64} (hd : decode cc pc = .ok (.lload_n kk, 1)) (hi : (kk : Nat) = i) (hj : lv[j]? = some (i, .long x)) (k : bwR l g cc nL own nm ret rm PX Zf (pc + 1) lv (.long x :: st) ws kc ks) : bwR l g cc nL own nm ret rm PX Zf pc lv (st) ws kc ks := by
  intro p e s m args below meth c A H locs ls C hX hA hP hD hS hl
  exact lv_lload_n C.1 C.2.1 hd hi (lv_at hl j hj) (k p e s m args below meth c A H locs ls C hX hA hP hD hS hl)
theorem bw_lload (j : Nat) {i : Nat} {x : Int64} (hd : decode cc pc = .ok (.lload i, 2)) (hj : lv[j]? = some (i, .long x)) (k : bwR l g cc nL own nm ret rm PX Zf (pc + 2) lv (.long x :: st) ws kc ks) : bwR l g cc nL own nm ret rm PX Zf pc lv (st) ws kc ks := by
  intro p e s m args below meth c A H locs ls C hX hA hP hD hS hl
  exact lv_lload C.1 C.2.1 hd (lv_at hl j hj) (k p e s m args below meth c A H locs ls C hX hA hP hD hS hl)
theorem bw_aload_n (j : Nat) {kk : Fin 4} {i : Nat} {x : Nat} (hd : decode cc pc = .ok (.aload_n kk, 1)) (hi : (kk : Nat) = i) (hj : lv[j]? = some (i, .ref x)) (k : bwR l g cc nL own nm ret rm PX Zf (pc + 1) lv (.ref x :: st) ws kc ks) : bwR l g cc nL own nm ret rm PX Zf pc lv (st) ws kc ks := by
  intro p e s m args below meth c A H locs ls C hX hA hP hD hS hl
  exact lv_aload_n C.1 C.2.1 hd hi (lv_at hl j hj) (k p e s m args below meth c A H locs ls C hX hA hP hD hS hl)
theorem bw_aload (j : Nat) {i : Nat} {x : Nat} (hd : decode cc pc = .ok (.aload i, 2)) (hj : lv[j]? = some (i, .ref x)) (k : bwR l g cc nL own nm ret rm PX Zf (pc + 2) lv (.ref x :: st) ws kc ks) : bwR l g cc nL own nm ret rm PX Zf pc lv (st) ws kc ks := by
  intro p e s m args below meth c A H locs ls C hX hA hP hD hS hl
  exact lv_aload C.1 C.2.1 hd (lv_at hl j hj) (k p e s m args below meth c A H locs ls C hX hA hP hD hS hl)
theorem bw_aload_nN (j : Nat) {kk : Fin 4} {i : Nat} (hd : decode cc pc = .ok (.aload_n kk, 1)) (hi : (kk : Nat) = i) (hj : lv[j]? = some (i, .null)) (k : bwR l g cc nL own nm ret rm PX Zf (pc + 1) lv (.null :: st) ws kc ks) : bwR l g cc nL own nm ret rm PX Zf pc lv (st) ws kc ks := by
  intro p e s m args below meth c A H locs ls C hX hA hP hD hS hl
  exact lv_aload_nN C.1 C.2.1 hd hi (lv_at hl j hj) (k p e s m args below meth c A H locs ls C hX hA hP hD hS hl)
theorem bw_istore_n {kk : Fin 4} {i : Nat} {x : Int32} (lv1 : List (Nat × Value)) (hd : decode cc pc = .ok (.istore_n kk, 1)) (hi : (kk : Nat) = i) (hn : i < nL) (hf : (i, Value.int x) :: lv.filter (fun q => !(q.1 == i) && !(q.1 + 1 == i && q.2.category == 2)) = lv1) (k : bwR l g cc nL own nm ret rm PX Zf (pc + 1) lv1 st ws kc ks) : bwR l g cc nL own nm ret rm PX Zf pc lv (.int x :: st) ws kc ks := by
  intro p e s m args below meth c A H locs ls C hX hA hP hD hS hl
  exact lv_istore_n C.1 C.2.1 hd hi hl hn hf (fun ls1 hl1 => k p e s m args below meth c A H locs ls1 C hX hA hP hD hS hl1)
theorem bw_istore {i : Nat} {x : Int32} (lv1 : List (Nat × Value)) (hd : decode cc pc = .ok (.istore i, 2)) (hn : i < nL) (hf : (i, Value.int x) :: lv.filter (fun q => !(q.1 == i) && !(q.1 + 1 == i && q.2.category == 2)) = lv1) (k : bwR l g cc nL own nm ret rm PX Zf (pc + 2) lv1 st ws kc ks) : bwR l g cc nL own nm ret rm PX Zf pc lv (.int x :: st) ws kc ks := by
  intro p e s m args below meth c A H locs ls C hX hA hP hD hS hl
  exact lv_istore C.1 C.2.1 hd hl hn hf (fun ls1 hl1 => k p e s m args below meth c A H locs ls1 C hX hA hP hD hS hl1)
theorem bw_lstore_n {kk : Fin 4} {i : Nat} {x : Int64} (lv1 : List (Nat × Value)) (hd : decode cc pc = .ok (.lstore_n kk, 1)) (hi : (kk : Nat) = i) (hn : i + 1 < nL) (hf : (i, Value.long x) :: lv.filter (fun q => !(q.1 == i) && (!(q.1 == i + 1) && !(q.1 + 1 == i && q.2.category == 2))) = lv1) (k : bwR l g cc nL own nm ret rm PX Zf (pc + 1) lv1 st ws kc ks) : bwR l g cc nL own nm ret rm PX Zf pc lv (.long x :: st) ws kc ks := by
  intro p e s m args below meth c A H locs ls C hX hA hP hD hS hl
  exact lv_lstore_n C.1 C.2.1 hd hi hl hn hf (fun ls1 hl1 => k p e s m args below meth c A H locs ls1 C hX hA hP hD hS hl1)
theorem bw_lstore {i : Nat} {x : Int64} (lv1 : List (Nat × Value)) (hd : decode cc pc = .ok (.lstore i, 2)) (hn : i + 1 < nL) (hf : (i, Value.long x) :: lv.filter (fun q => !(q.1 == i) && (!(q.1 == i + 1) && !(q.1 + 1 == i && q.2.category == 2))) = lv1) (k : bwR l g cc nL own nm ret rm PX Zf (pc + 2) lv1 st ws kc ks) : bwR l g cc nL own nm ret rm PX Zf pc lv (.long x :: st) ws kc ks := by
  intro p e s m args below meth c A H locs ls C hX hA hP hD hS hl
  exact lv_lstore C.1 C.2.1 hd hl hn hf (fun ls1 hl1 => k p e s m args below meth c A H locs ls1 C hX hA hP hD hS hl1)
theorem bw_astore_n {kk : Fin 4} {i : Nat} {x : Nat} (lv1 : List (Nat × Value)) (hd : decode cc pc = .ok (.astore_n kk, 1)) (hi : (kk : Nat) = i) (hn : i < nL) (hf : (i, Value.ref x) :: lv.filter (fun q => !(q.1 == i) && !(q.1 + 1 == i && q.2.category == 2)) = lv1) (k : bwR l g cc nL own nm ret rm PX Zf (pc + 1) lv1 st ws kc ks) : bwR l g cc nL own nm ret rm PX Zf pc lv (.ref x :: st) ws kc ks := by
  intro p e s m args below meth c A H locs ls C hX hA hP hD hS hl
  exact lv_astore_n C.1 C.2.1 hd hi hl hn hf (fun ls1 hl1 => k p e s m args below meth c A H locs ls1 C hX hA hP hD hS hl1)
theorem bw_astore {i : Nat} {x : Nat} (lv1 : List (Nat × Value)) (hd : decode cc pc = .ok (.astore i, 2)) (hn : i < nL) (hf : (i, Value.ref x) :: lv.filter (fun q => !(q.1 == i) && !(q.1 + 1 == i && q.2.category == 2)) = lv1) (k : bwR l g cc nL own nm ret rm PX Zf (pc + 2) lv1 st ws kc ks) : bwR l g cc nL own nm ret rm PX Zf pc lv (.ref x :: st) ws kc ks := by
  intro p e s m args below meth c A H locs ls C hX hA hP hD hS hl
  exact lv_astore C.1 C.2.1 hd hl hn hf (fun ls1 hl1 => k p e s m args below meth c A H locs ls1 C hX hA hP hD hS hl1)
theorem bw_astore_nN {kk : Fin 4} {i : Nat} (lv1 : List (Nat × Value)) (hd : decode cc pc = .ok (.astore_n kk, 1)) (hi : (kk : Nat) = i) (hn : i < nL) (hf : (i, Value.null) :: lv.filter (fun q => !(q.1 == i) && !(q.1 + 1 == i && q.2.category == 2)) = lv1) (k : bwR l g cc nL own nm ret rm PX Zf (pc + 1) lv1 st ws kc ks) : bwR l g cc nL own nm ret rm PX Zf pc lv (.null :: st) ws kc ks := by
  intro p e s m args below meth c A H locs ls C hX hA hP hD hS hl
  exact lv_astore_nN C.1 C.2.1 hd hi hl hn hf (fun ls1 hl1 => k p e s m args below meth c A H locs ls1 C hX hA hP hD hS hl1)
theorem bw_iinc (j : Nat) {i : Nat} {n : Int} {x : Int32} (v : Int32) (lv1 : List (Nat × Value)) (hd : decode cc pc = .ok (.iinc i n, 3)) (hj : lv[j]? = some (i, .int x)) (hv : x + Int32.ofInt n = v) (hn : i < nL) (hf : (i, Value.int v) :: lv.filter (fun q => !(q.1 == i) && !(q.1 + 1 == i && q.2.category == 2)) = lv1) (k : bwR l g cc nL own nm ret rm PX Zf (pc + 3) lv1 st ws kc ks) : bwR l g cc nL own nm ret rm PX Zf pc lv st ws kc ks := by
  intro p e s m args below meth c A H locs ls C hX hA hP hD hS hl
  exact lv_iinc C.1 C.2.1 hd hl hj hv hn hf (fun ls1 hl1 => k p e s m args below meth c A H locs ls1 C hX hA hP hD hS hl1)
theorem bw_iadd {x y : Int32} (hd : decode cc pc = .ok (.iadd, 1)) (k : bwR l g cc nL own nm ret rm PX Zf (pc + 1) lv (.int (x + y) :: st) ws kc ks) : bwR l g cc nL own nm ret rm PX Zf pc lv (.int y :: .int x :: st) ws kc ks := by
  intro p e s m args below meth c A H locs ls C hX hA hP hD hS hl
  exact lv_iadd C.1 C.2.1 hd (k p e s m args below meth c A H locs ls C hX hA hP hD hS hl)
theorem bw_isub {x y : Int32} (hd : decode cc pc = .ok (.isub, 1)) (k : bwR l g cc nL own nm ret rm PX Zf (pc + 1) lv (.int (x - y) :: st) ws kc ks) : bwR l g cc nL own nm ret rm PX Zf pc lv (.int y :: .int x :: st) ws kc ks := by
  intro p e s m args below meth c A H locs ls C hX hA hP hD hS hl
  exact lv_isub C.1 C.2.1 hd (k p e s m args below meth c A H locs ls C hX hA hP hD hS hl)
theorem bw_imul {x y : Int32} (hd : decode cc pc = .ok (.imul, 1)) (k : bwR l g cc nL own nm ret rm PX Zf (pc + 1) lv (.int (x * y) :: st) ws kc ks) : bwR l g cc nL own nm ret rm PX Zf pc lv (.int y :: .int x :: st) ws kc ks := by
  intro p e s m args below meth c A H locs ls C hX hA hP hD hS hl
  exact lv_imul C.1 C.2.1 hd (k p e s m args below meth c A H locs ls C hX hA hP hD hS hl)
theorem bw_iand {x y : Int32} (hd : decode cc pc = .ok (.iand, 1)) (k : bwR l g cc nL own nm ret rm PX Zf (pc + 1) lv (.int (x &&& y) :: st) ws kc ks) : bwR l g cc nL own nm ret rm PX Zf pc lv (.int y :: .int x :: st) ws kc ks := by
  intro p e s m args below meth c A H locs ls C hX hA hP hD hS hl
  exact lv_iand C.1 C.2.1 hd (k p e s m args below meth c A H locs ls C hX hA hP hD hS hl)
theorem bw_ior {x y : Int32} (hd : decode cc pc = .ok (.ior, 1)) (k : bwR l g cc nL own nm ret rm PX Zf (pc + 1) lv (.int (x ||| y) :: st) ws kc ks) : bwR l g cc nL own nm ret rm PX Zf pc lv (.int y :: .int x :: st) ws kc ks := by
  intro p e s m args below meth c A H locs ls C hX hA hP hD hS hl
  exact lv_ior C.1 C.2.1 hd (k p e s m args below meth c A H locs ls C hX hA hP hD hS hl)
theorem bw_ixor {x y : Int32} (hd : decode cc pc = .ok (.ixor, 1)) (k : bwR l g cc nL own nm ret rm PX Zf (pc + 1) lv (.int (x ^^^ y) :: st) ws kc ks) : bwR l g cc nL own nm ret rm PX Zf pc lv (.int y :: .int x :: st) ws kc ks := by
  intro p e s m args below meth c A H locs ls C hX hA hP hD hS hl
  exact lv_ixor C.1 C.2.1 hd (k p e s m args below meth c A H locs ls C hX hA hP hD hS hl)
theorem bw_idiv {x y : Int32} (hd : decode cc pc = .ok (.idiv, 1)) (hne : ¬ y = 0) (k : bwR l g cc nL own nm ret rm PX Zf (pc + 1) lv (.int (x / y) :: st) ws kc ks) : bwR l g cc nL own nm ret rm PX Zf pc lv (.int y :: .int x :: st) ws kc ks := by
  intro p e s m args below meth c A H locs ls C hX hA hP hD hS hl
  exact lv_idiv C.1 C.2.1 hd hne (k p e s m args below meth c A H locs ls C hX hA hP hD hS hl)
theorem bw_irem {x y : Int32} (hd : decode cc pc = .ok (.irem, 1)) (hne : ¬ y = 0) (k : bwR l g cc nL own nm ret rm PX Zf (pc + 1) lv (.int (x - x / y * y) :: st) ws kc ks) : bwR l g cc nL own nm ret rm PX Zf pc lv (.int y :: .int x :: st) ws kc ks := by
  intro p e s m args below meth c A H locs ls C hX hA hP hD hS hl
  exact lv_irem C.1 C.2.1 hd hne (k p e s m args below meth c A H locs ls C hX hA hP hD hS hl)
theorem bw_ineg {x : Int32} (hd : decode cc pc = .ok (.ineg, 1)) (k : bwR l g cc nL own nm ret rm PX Zf (pc + 1) lv (.int (-x) :: st) ws kc ks) : bwR l g cc nL own nm ret rm PX Zf pc lv (.int x :: st) ws kc ks := by
  intro p e s m args below meth c A H locs ls C hX hA hP hD hS hl
  exact lv_ineg C.1 C.2.1 hd (k p e s m args below meth c A H locs ls C hX hA hP hD hS hl)
theorem bw_ladd {x y : Int64} (hd : decode cc pc = .ok (.ladd, 1)) (k : bwR l g cc nL own nm ret rm PX Zf (pc + 1) lv (.long (x + y) :: st) ws kc ks) : bwR l g cc nL own nm ret rm PX Zf pc lv (.long y :: .long x :: st) ws kc ks := by
  intro p e s m args below meth c A H locs ls C hX hA hP hD hS hl
  exact lv_ladd C.1 C.2.1 hd (k p e s m args below meth c A H locs ls C hX hA hP hD hS hl)
theorem bw_lsub {x y : Int64} (hd : decode cc pc = .ok (.lsub, 1)) (k : bwR l g cc nL own nm ret rm PX Zf (pc + 1) lv (.long (x - y) :: st) ws kc ks) : bwR l g cc nL own nm ret rm PX Zf pc lv (.long y :: .long x :: st) ws kc ks := by
  intro p e s m args below meth c A H locs ls C hX hA hP hD hS hl
  exact lv_lsub C.1 C.2.1 hd (k p e s m args below meth c A H locs ls C hX hA hP hD hS hl)
theorem bw_lmul {x y : Int64} (hd : decode cc pc = .ok (.lmul, 1)) (k : bwR l g cc nL own nm ret rm PX Zf (pc + 1) lv (.long (x * y) :: st) ws kc ks) : bwR l g cc nL own nm ret rm PX Zf pc lv (.long y :: .long x :: st) ws kc ks := by
  intro p e s m args below meth c A H locs ls C hX hA hP hD hS hl
  exact lv_lmul C.1 C.2.1 hd (k p e s m args below meth c A H locs ls C hX hA hP hD hS hl)
theorem bw_land {x y : Int64} (hd : decode cc pc = .ok (.land, 1)) (k : bwR l g cc nL own nm ret rm PX Zf (pc + 1) lv (.long (x &&& y) :: st) ws kc ks) : bwR l g cc nL own nm ret rm PX Zf pc lv (.long y :: .long x :: st) ws kc ks := by
  intro p e s m args below meth c A H locs ls C hX hA hP hD hS hl
  exact lv_land C.1 C.2.1 hd (k p e s m args below meth c A H locs ls C hX hA hP hD hS hl)
theorem bw_lor {x y : Int64} (hd : decode cc pc = .ok (.lor, 1)) (k : bwR l g cc nL own nm ret rm PX Zf (pc + 1) lv (.long (x ||| y) :: st) ws kc ks) : bwR l g cc nL own nm ret rm PX Zf pc lv (.long y :: .long x :: st) ws kc ks := by
  intro p e s m args below meth c A H locs ls C hX hA hP hD hS hl
  exact lv_lor C.1 C.2.1 hd (k p e s m args below meth c A H locs ls C hX hA hP hD hS hl)
theorem bw_i2l {x : Int32} (hd : decode cc pc = .ok (.i2l, 1)) (k : bwR l g cc nL own nm ret rm PX Zf (pc + 1) lv (.long x.toInt64 :: st) ws kc ks) : bwR l g cc nL own nm ret rm PX Zf pc lv (.int x :: st) ws kc ks := by
  intro p e s m args below meth c A H locs ls C hX hA hP hD hS hl
  exact lv_i2l C.1 C.2.1 hd rfl (k p e s m args below meth c A H locs ls C hX hA hP hD hS hl)
theorem bw_l2i {x : Int64} (hd : decode cc pc = .ok (.l2i, 1)) (k : bwR l g cc nL own nm ret rm PX Zf (pc + 1) lv (.int x.toInt32 :: st) ws kc ks) : bwR l g cc nL own nm ret rm PX Zf pc lv (.long x :: st) ws kc ks := by
  intro p e s m args below meth c A H locs ls C hX hA hP hD hS hl
  exact lv_l2i C.1 C.2.1 hd rfl (k p e s m args below meth c A H locs ls C hX hA hP hD hS hl)
theorem bw_i2c {x : Int32} (hd : decode cc pc = .ok (.i2c, 1)) (k : bwR l g cc nL own nm ret rm PX Zf (pc + 1) lv (.int (x.toUInt32 % 65536).toInt32 :: st) ws kc ks) : bwR l g cc nL own nm ret rm PX Zf pc lv (.int x :: st) ws kc ks := by
  intro p e s m args below meth c A H locs ls C hX hA hP hD hS hl
  exact lv_i2c C.1 C.2.1 hd rfl (k p e s m args below meth c A H locs ls C hX hA hP hD hS hl)
theorem bw_lushr {x : Int64} {y : Int32} (hd : decode cc pc = .ok (.lushr, 1)) (k : bwR l g cc nL own nm ret rm PX Zf (pc + 1) lv (.long (x.toUInt64 >>> (y.toInt64.toUInt64 &&& Int64.toUInt64 63)).toInt64 :: st) ws kc ks) : bwR l g cc nL own nm ret rm PX Zf pc lv (.int y :: .long x :: st) ws kc ks := by
  intro p e s m args below meth c A H locs ls C hX hA hP hD hS hl
  exact lv_lushr C.1 C.2.1 hd rfl (k p e s m args below meth c A H locs ls C hX hA hP hD hS hl)
theorem bw_lshl {x : Int64} {y : Int32} (hd : decode cc pc = .ok (.lshl, 1)) (k : bwR l g cc nL own nm ret rm PX Zf (pc + 1) lv (.long (x <<< (y.toInt64 &&& 63)) :: st) ws kc ks) : bwR l g cc nL own nm ret rm PX Zf pc lv (.int y :: .long x :: st) ws kc ks := by
  intro p e s m args below meth c A H locs ls C hX hA hP hD hS hl
  exact lv_lshl C.1 C.2.1 hd rfl (k p e s m args below meth c A H locs ls C hX hA hP hD hS hl)
theorem bw_lcmp {x y : Int64} (hd : decode cc pc = .ok (.lcmp, 1)) (k : bwR l g cc nL own nm ret rm PX Zf (pc + 1) lv (.int (lg_cmp x y) :: st) ws kc ks) : bwR l g cc nL own nm ret rm PX Zf pc lv (.long y :: .long x :: st) ws kc ks := by
  intro p e s m args below meth c A H locs ls C hX hA hP hD hS hl
  exact W.lcmp C.1 C.2.1 hd (k p e s m args below meth c A H locs ls C hX hA hP hD hS hl)
theorem bw_dup {va : Value} (hd : decode cc pc = .ok (.dup, 1)) (hva : va.category = 1) (k : bwR l g cc nL own nm ret rm PX Zf (pc + 1) lv (va :: va :: st) ws kc ks) : bwR l g cc nL own nm ret rm PX Zf pc lv (va :: st) ws kc ks := by
  intro p e s m args below meth c A H locs ls C hX hA hP hD hS hl
  exact lv_dup C.1 C.2.1 hd hva (k p e s m args below meth c A H locs ls C hX hA hP hD hS hl)
theorem bw_pop {va : Value} (hd : decode cc pc = .ok (.pop, 1)) (hva : va.category = 1) (k : bwR l g cc nL own nm ret rm PX Zf (pc + 1) lv (st) ws kc ks) : bwR l g cc nL own nm ret rm PX Zf pc lv (va :: st) ws kc ks := by
  intro p e s m args below meth c A H locs ls C hX hA hP hD hS hl
  exact lv_pop C.1 C.2.1 hd hva (k p e s m args below meth c A H locs ls C hX hA hP hD hS hl)
theorem bw_dup2_11 {va vb : Value} (hd : decode cc pc = .ok (.dup2, 1)) (hva : va.category = 1) (hvb : vb.category = 1) (k : bwR l g cc nL own nm ret rm PX Zf (pc + 1) lv (va :: vb :: va :: vb :: st) ws kc ks) : bwR l g cc nL own nm ret rm PX Zf pc lv (va :: vb :: st) ws kc ks := by
  intro p e s m args below meth c A H locs ls C hX hA hP hD hS hl
  exact lv_dup2_11 C.1 C.2.1 hd hva hvb (k p e s m args below meth c A H locs ls C hX hA hP hD hS hl)
theorem bw_goto {off : Int} (tgt : Nat) (hd : decode cc pc = .ok (.goto off, 3)) (ht : (pc : Int) + off = (tgt : Int)) (k : bwR l g cc nL own nm ret rm PX Zf (tgt) lv (st) ws kc ks) : bwR l g cc nL own nm ret rm PX Zf pc lv (st) ws kc ks := by
  intro p e s m args below meth c A H locs ls C hX hA hP hD hS hl
  exact lv_goto C.1 C.2.1 hd ht (k p e s m args below meth c A H locs ls C hX hA hP hD hS hl)
theorem bw_ifnonnull {x : Nat} {off : Int} (tgt : Nat) (hd : decode cc pc = .ok (.ifnonnull off, 3)) (ht : (pc : Int) + off = (tgt : Int)) (k : bwR l g cc nL own nm ret rm PX Zf (tgt) lv (st) ws kc ks) : bwR l g cc nL own nm ret rm PX Zf pc lv (.ref x :: st) ws kc ks := by
  intro p e s m args below meth c A H locs ls C hX hA hP hD hS hl
  exact lv_ifnonnull C.1 C.2.1 hd ht (k p e s m args below meth c A H locs ls C hX hA hP hD hS hl)
theorem bw_ifnonnullN {off : Int} (hd : decode cc pc = .ok (.ifnonnull off, 3)) (k : bwR l g cc nL own nm ret rm PX Zf (pc + 3) lv (st) ws kc ks) : bwR l g cc nL own nm ret rm PX Zf pc lv (.null :: st) ws kc ks := by
  intro p e s m args below meth c A H locs ls C hX hA hP hD hS hl
  exact lv_ifnonnullN C.1 C.2.1 hd (k p e s m args below meth c A H locs ls C hX hA hP hD hS hl)
-- branches: the condition as the kit's rows have it
theorem bw_if_eq {x : Int32} {off : Int} (tgt : Nat) (hd : decode cc pc = .ok (.ifCond .eq off, 3)) (ht : (pc : Int) + off = (tgt : Int)) (kt : x = 0 → bwR l g cc nL own nm ret rm PX Zf tgt lv st ws kc ks) (kf : ¬ x = 0 → bwR l g cc nL own nm ret rm PX Zf (pc + 3) lv st ws kc ks) : bwR l g cc nL own nm ret rm PX Zf pc lv (.int x :: st) ws kc ks := by
  intro p e s m args below meth c A H locs ls C hX hA hP hD hS hl
  exact lv_if_eq C.1 C.2.1 hd ht (fun h => kt h p e s m args below meth c A H locs ls C hX hA hP hD hS hl) (fun h => kf h p e s m args below meth c A H locs ls C hX hA hP hD hS hl)
theorem bw_if_ne {x : Int32} {off : Int} (tgt : Nat) (hd : decode cc pc = .ok (.ifCond .ne off, 3)) (ht : (pc : Int) + off = (tgt : Int)) (kt : ¬ x = 0 → bwR l g cc nL own nm ret rm PX Zf tgt lv st ws kc ks) (kf : x = 0 → bwR l g cc nL own nm ret rm PX Zf (pc + 3) lv st ws kc ks) : bwR l g cc nL own nm ret rm PX Zf pc lv (.int x :: st) ws kc ks := by
  intro p e s m args below meth c A H locs ls C hX hA hP hD hS hl
  exact lv_if_ne C.1 C.2.1 hd ht (fun h => kt h p e s m args below meth c A H locs ls C hX hA hP hD hS hl) (fun h => kf h p e s m args below meth c A H locs ls C hX hA hP hD hS hl)
theorem bw_if_lt {x : Int32} {off : Int} (tgt : Nat) (hd : decode cc pc = .ok (.ifCond .lt off, 3)) (ht : (pc : Int) + off = (tgt : Int)) (kt : x < 0 → bwR l g cc nL own nm ret rm PX Zf tgt lv st ws kc ks) (kf : ¬ x < 0 → bwR l g cc nL own nm ret rm PX Zf (pc + 3) lv st ws kc ks) : bwR l g cc nL own nm ret rm PX Zf pc lv (.int x :: st) ws kc ks := by
  intro p e s m args below meth c A H locs ls C hX hA hP hD hS hl
  exact lv_if_lt C.1 C.2.1 hd ht (fun h => kt h p e s m args below meth c A H locs ls C hX hA hP hD hS hl) (fun h => kf h p e s m args below meth c A H locs ls C hX hA hP hD hS hl)
theorem bw_if_ge {x : Int32} {off : Int} (tgt : Nat) (hd : decode cc pc = .ok (.ifCond .ge off, 3)) (ht : (pc : Int) + off = (tgt : Int)) (kt : 0 ≤ x → bwR l g cc nL own nm ret rm PX Zf tgt lv st ws kc ks) (kf : ¬ 0 ≤ x → bwR l g cc nL own nm ret rm PX Zf (pc + 3) lv st ws kc ks) : bwR l g cc nL own nm ret rm PX Zf pc lv (.int x :: st) ws kc ks := by
  intro p e s m args below meth c A H locs ls C hX hA hP hD hS hl
  exact lv_if_ge C.1 C.2.1 hd ht (fun h => kt h p e s m args below meth c A H locs ls C hX hA hP hD hS hl) (fun h => kf h p e s m args below meth c A H locs ls C hX hA hP hD hS hl)
theorem bw_if_gt {x : Int32} {off : Int} (tgt : Nat) (hd : decode cc pc = .ok (.ifCond .gt off, 3)) (ht : (pc : Int) + off = (tgt : Int)) (kt : 0 < x → bwR l g cc nL own nm ret rm PX Zf tgt lv st ws kc ks) (kf : ¬ 0 < x → bwR l g cc nL own nm ret rm PX Zf (pc + 3) lv st ws kc ks) : bwR l g cc nL own nm ret rm PX Zf pc lv (.int x :: st) ws kc ks := by
  intro p e s m args below meth c A H locs ls C hX hA hP hD hS hl
  exact lv_if_gt C.1 C.2.1 hd ht (fun h => kt h p e s m args below meth c A H locs ls C hX hA hP hD hS hl) (fun h => kf h p e s m args below meth c A H locs ls C hX hA hP hD hS hl)
theorem bw_if_le {x : Int32} {off : Int} (tgt : Nat) (hd : decode cc pc = .ok (.ifCond .le off, 3)) (ht : (pc : Int) + off = (tgt : Int)) (kt : x ≤ 0 → bwR l g cc nL own nm ret rm PX Zf tgt lv st ws kc ks) (kf : ¬ x ≤ 0 → bwR l g cc nL own nm ret rm PX Zf (pc + 3) lv st ws kc ks) : bwR l g cc nL own nm ret rm PX Zf pc lv (.int x :: st) ws kc ks := by
  intro p e s m args below meth c A H locs ls C hX hA hP hD hS hl
  exact lv_if_le C.1 C.2.1 hd ht (fun h => kt h p e s m args below meth c A H locs ls C hX hA hP hD hS hl) (fun h => kf h p e s m args below meth c A H locs ls C hX hA hP hD hS hl)
theorem bw_icmp_eq {x y : Int32} {off : Int} (tgt : Nat) (hd : decode cc pc = .ok (.if_icmp .eq off, 3)) (ht : (pc : Int) + off = (tgt : Int)) (kt : x = y → bwR l g cc nL own nm ret rm PX Zf tgt lv st ws kc ks) (kf : ¬ x = y → bwR l g cc nL own nm ret rm PX Zf (pc + 3) lv st ws kc ks) : bwR l g cc nL own nm ret rm PX Zf pc lv (.int y :: .int x :: st) ws kc ks := by
  intro p e s m args below meth c A H locs ls C hX hA hP hD hS hl
  exact lv_icmp_eq C.1 C.2.1 hd ht (fun h => kt h p e s m args below meth c A H locs ls C hX hA hP hD hS hl) (fun h => kf h p e s m args below meth c A H locs ls C hX hA hP hD hS hl)
theorem bw_icmp_ne {x y : Int32} {off : Int} (tgt : Nat) (hd : decode cc pc = .ok (.if_icmp .ne off, 3)) (ht : (pc : Int) + off = (tgt : Int)) (kt : ¬ x = y → bwR l g cc nL own nm ret rm PX Zf tgt lv st ws kc ks) (kf : x = y → bwR l g cc nL own nm ret rm PX Zf (pc + 3) lv st ws kc ks) : bwR l g cc nL own nm ret rm PX Zf pc lv (.int y :: .int x :: st) ws kc ks := by
  intro p e s m args below meth c A H locs ls C hX hA hP hD hS hl
  exact lv_icmp_ne C.1 C.2.1 hd ht (fun h => kt h p e s m args below meth c A H locs ls C hX hA hP hD hS hl) (fun h => kf h p e s m args below meth c A H locs ls C hX hA hP hD hS hl)
theorem bw_icmp_lt {x y : Int32} {off : Int} (tgt : Nat) (hd : decode cc pc = .ok (.if_icmp .lt off, 3)) (ht : (pc : Int) + off = (tgt : Int)) (kt : x < y → bwR l g cc nL own nm ret rm PX Zf tgt lv st ws kc ks) (kf : ¬ x < y → bwR l g cc nL own nm ret rm PX Zf (pc + 3) lv st ws kc ks) : bwR l g cc nL own nm ret rm PX Zf pc lv (.int y :: .int x :: st) ws kc ks := by
  intro p e s m args below meth c A H locs ls C hX hA hP hD hS hl
  exact lv_icmp_lt C.1 C.2.1 hd ht (fun h => kt h p e s m args below meth c A H locs ls C hX hA hP hD hS hl) (fun h => kf h p e s m args below meth c A H locs ls C hX hA hP hD hS hl)
theorem bw_icmp_ge {x y : Int32} {off : Int} (tgt : Nat) (hd : decode cc pc = .ok (.if_icmp .ge off, 3)) (ht : (pc : Int) + off = (tgt : Int)) (kt : y ≤ x → bwR l g cc nL own nm ret rm PX Zf tgt lv st ws kc ks) (kf : ¬ y ≤ x → bwR l g cc nL own nm ret rm PX Zf (pc + 3) lv st ws kc ks) : bwR l g cc nL own nm ret rm PX Zf pc lv (.int y :: .int x :: st) ws kc ks := by
  intro p e s m args below meth c A H locs ls C hX hA hP hD hS hl
  exact lv_icmp_ge C.1 C.2.1 hd ht (fun h => kt h p e s m args below meth c A H locs ls C hX hA hP hD hS hl) (fun h => kf h p e s m args below meth c A H locs ls C hX hA hP hD hS hl)
theorem bw_icmp_gt {x y : Int32} {off : Int} (tgt : Nat) (hd : decode cc pc = .ok (.if_icmp .gt off, 3)) (ht : (pc : Int) + off = (tgt : Int)) (kt : y < x → bwR l g cc nL own nm ret rm PX Zf tgt lv st ws kc ks) (kf : ¬ y < x → bwR l g cc nL own nm ret rm PX Zf (pc + 3) lv st ws kc ks) : bwR l g cc nL own nm ret rm PX Zf pc lv (.int y :: .int x :: st) ws kc ks := by
  intro p e s m args below meth c A H locs ls C hX hA hP hD hS hl
  exact lv_icmp_gt C.1 C.2.1 hd ht (fun h => kt h p e s m args below meth c A H locs ls C hX hA hP hD hS hl) (fun h => kf h p e s m args below meth c A H locs ls C hX hA hP hD hS hl)
theorem bw_icmp_le {x y : Int32} {off : Int} (tgt : Nat) (hd : decode cc pc = .ok (.if_icmp .le off, 3)) (ht : (pc : Int) + off = (tgt : Int)) (kt : x ≤ y → bwR l g cc nL own nm ret rm PX Zf tgt lv st ws kc ks) (kf : ¬ x ≤ y → bwR l g cc nL own nm ret rm PX Zf (pc + 3) lv st ws kc ks) : bwR l g cc nL own nm ret rm PX Zf pc lv (.int y :: .int x :: st) ws kc ks := by
  intro p e s m args below meth c A H locs ls C hX hA hP hD hS hl
  exact lv_icmp_le C.1 C.2.1 hd ht (fun h => kt h p e s m args below meth c A H locs ls C hX hA hP hD hS hl) (fun h => kf h p e s m args below meth c A H locs ls C hX hA hP hD hS hl)
theorem bw_tableOut {dflt lo hi : Int} {offs : Array Int} {len : Nat} {x : Int32} (tgt : Nat) (hd : decode cc pc = .ok (.tableswitch dflt lo hi offs, len)) (h : x.toInt < lo ∨ hi < x.toInt) (ht : (pc : Int) + dflt = (tgt : Int)) (k : bwR l g cc nL own nm ret rm PX Zf tgt lv st ws kc ks) : bwR l g cc nL own nm ret rm PX Zf pc lv (.int x :: st) ws kc ks := by
  intro p e s m args below meth c A H locs ls C hX hA hP hD hS hl
  exact lv_tableOut C.1 C.2.1 hd h ht (k p e s m args below meth c A H locs ls C hX hA hP hD hS hl)
theorem bw_tableIn {dflt lo hi : Int} {offs : Array Int} {len : Nat} {x : Int32} {off : Int} (tgt : Nat) (hd : decode cc pc = .ok (.tableswitch dflt lo hi offs, len)) (h1 : ¬ x.toInt < lo) (h2 : ¬ hi < x.toInt) (ho : offs[(x.toInt - lo).toNat]? = some off) (ht : (pc : Int) + off = (tgt : Int)) (k : bwR l g cc nL own nm ret rm PX Zf tgt lv st ws kc ks) : bwR l g cc nL own nm ret rm PX Zf pc lv (.int x :: st) ws kc ks := by
  intro p e s m args below meth c A H locs ls C hX hA hP hD hS hl
  exact lv_tableIn C.1 C.2.1 hd h1 h2 ho ht (k p e s m args below meth c A H locs ls C hX hA hP hD hS hl)
theorem bw_lv (is : List Nat) {lv1 : List (Nat × Value)} (hf : lv_pick lv is = lv1) (k : bwR l g cc nL own nm ret rm PX Zf pc lv1 st ws kc ks) : bwR l g cc nL own nm ret rm PX Zf pc lv st ws kc ks := by
  intro p e s m args below meth c A H locs ls C hX hA hP hD hS hl
  exact k p e s m args below meth c A H locs ls C hX hA hP hD hS (lv_sub hl is hf)
theorem bw_st {st1 : List Value} (h : st = st1) (k : bwR l g cc nL own nm ret rm PX Zf pc lv st1 ws kc ks) : bwR l g cc nL own nm ret rm PX Zf pc lv st ws kc ks := h ▸ k
theorem bw_ws {ws1 : va_W} (h : ws = ws1) (k : bwR l g cc nL own nm ret rm PX Zf pc lv st ws1 kc ks) : bwR l g cc nL own nm ret rm PX Zf pc lv st ws kc ks := h ▸ k
theorem bw_wide {k1 n1 : Nat} (h1 : kc ≤ k1) (h2 : ks ≤ n1) (k : bwR l g cc nL own nm ret rm PX Zf pc lv st ws k1 n1) : bwR l g cc nL own nm ret rm PX Zf pc lv st ws kc ks := by
  intro p e s m args below meth c A H locs ls C hX hA hP hD hS hl
  exact W.widen h1 h2 (k p e s m args below meth c A H locs ls C hX hA hP hD hS hl)
theorem bw_P {D : va_G} {cl : List vw_C} {ws ws1 : va_W} {H : Heap} (h : ∀ q ∈ ws1, q ∈ ws) (hP : va_P D cl ws H) : va_P D cl ws1 H := by
  intro k q hq
  obtain ⟨i, hi⟩ := List.getElem?_of_mem (h q (List.mem_of_getElem? hq))
  exact hP i q hi
theorem bw_D1 {A : Nat → Prop} {ws : va_W} (h : va_D A ws) : (ws.map Prod.fst).Nodup := by
  rw [List.nodup_iff_pairwise_ne, List.pairwise_iff_getElem]
  intro i j hi hj hij h1
  rw [List.length_map] at hi hj
  rw [List.getElem_map, List.getElem_map] at h1
  have h2 := h.1 i j ws[i] ws[j] (List.getElem?_eq_getElem hi) (List.getElem?_eq_getElem hj) h1
  omega
theorem bw_D2 {A : Nat → Prop} {ws : va_W} (h : (ws.map Prod.fst).Nodup) (hA : ∀ q ∈ ws, A q.1) : va_D A ws := by
  refine ⟨fun i j p q hi hj e => ?_, fun k q hk => hA q (List.mem_of_getElem? hk)⟩
  have hi' := (List.getElem?_eq_some_iff.mp hi).1
  have hj' := (List.getElem?_eq_some_iff.mp hj).1
  rw [List.nodup_iff_pairwise_ne, List.pairwise_iff_getElem] at h
  have li : i < (ws.map Prod.fst).length := by rw [List.length_map]; exact hi'
  have lj : j < (ws.map Prod.fst).length := by rw [List.length_map]; exact hj'
  have e1 : (ws.map Prod.fst)[i] = p.1 := by rw [List.getElem_map]; exact congrArg Prod.fst (Option.some.inj ((List.getElem?_eq_getElem hi').symm.trans hi))
  have e2 : (ws.map Prod.fst)[j] = q.1 := by rw [List.getElem_map]; exact congrArg Prod.fst (Option.some.inj ((List.getElem?_eq_getElem hj').symm.trans hj))
  rcases Nat.lt_trichotomy i j with q1 | q1 | q1
  · exact absurd (by rw [e1, e2, e]) (h i j li lj q1)
  · exact q1
  · exact absurd (by rw [e1, e2, e]) (h j i lj li q1)
theorem bw_D2' {A : Nat → Prop} {ws : va_W} (h : va_D A ws) : ∀ q ∈ ws, A q.1 := by
  intro q hq
  obtain ⟨i, hi⟩ := List.getElem?_of_mem hq
  exact h.2 i q hi
theorem bw_Dp {A : Nat → Prop} {ws ws1 : va_W} (h : ws1.Perm ws) (hD : va_D A ws) : va_D A ws1 :=
  bw_D2 ((h.map Prod.fst).nodup_iff.mpr (bw_D1 hD)) (fun q hq => bw_D2' hD q (h.mem_iff.mp hq))
theorem bw_pick {α : Type} (X : List α) (is : List Nat) (h : is.Perm (List.range X.length)) : (is.filterMap (fun i => X[i]?)).Perm X := by
  have h1 := h.filterMap (fun i => X[i]?)
  have h2 : (List.range X.length).filterMap (fun i => X[i]?) = X := by
    clear h h1 is
    induction X with
    | nil => rfl
    | cons a X ih =>
      rw [List.length_cons, List.range_succ_eq_map, List.filterMap_cons]
      show a :: _ = _
      rw [List.filterMap_map]
      exact congrArg (a :: ·) ih
  rw [h2] at h1
  exact h1
theorem bw_perm {ws1 : va_W} (h : ws1.Perm ws) (k : bwR l g cc nL own nm ret rm PX Zf pc lv st ws1 kc ks) : bwR l g cc nL own nm ret rm PX Zf pc lv st ws kc ks := by
  intro p e s m args below meth c A H locs ls C hX hA hP hD hS hl
  exact k p e s m args below meth c A H locs ls C hX hA (bw_P (fun q hq => h.mem_iff.mp hq) hP) (bw_Dp h hD) hS hl
theorem bw_get (C0 : String) (T : u_T) (N ci q0 f : Nat) {index a : Nat} {fs : List Value} {v : Value} (hin : ∀ w ∈ u_ws C0 T N, w ∈ bw_all) (hc : vwCl[ci]? = some (C0, T, N)) (hf : f < N) (hlink : Cond.fieldLink own index (T f).1 (T f).2.1 (T f).2.2.1 ∈ bw_all) (he : ws[q0]? = some (a, .inr (ci, fs))) (hv : fs[f]? = some v) (hd : decode cc pc = .ok (.getfield index, 3)) (k : bwR l g cc nL own nm ret rm PX Zf (pc + 3) lv (v :: st) ws kc ks) : bwR l g cc nL own nm ret rm PX Zf pc lv (.ref a :: st) ws kc ks := by
  intro p e s m args below meth c A H locs ls C hX hA hP hD hS hl
  exact va_get C.1 C.2.1 C.2.2.2.2.1 hin C.2.2.2.1 C.2.2.2.2.2.2.2.2.1 hP q0 he hc f hf (C.2.2.2.2.1 _ hlink) (fun _ h => h) hv hd (k p e s m args below meth c A H locs ls C hX hA hP hD hS hl)
theorem bw_put (C0 : String) (T : u_T) (N ci q0 f : Nat) {index a : Nat} {fs : List Value} {v : Value} {ty : FieldType} (ws1 : va_W) (ty0 : Nat → FieldType) (hty : ∀ k, k < N → parseFieldDescriptor (T k).2.2.1 = some (ty0 k)) (hnm : ∀ a, a < N → ∀ b, b < N → a ≠ b → (T a).2.1 ≠ (T b).2.1) (hin : ∀ w ∈ u_ws C0 T N, w ∈ bw_all) (hc : vwCl[ci]? = some (C0, T, N)) (hf : f < N) (hlink : Cond.fieldLink own index (T f).1 (T f).2.1 (T f).2.2.1 ∈ bw_all) (hfin : (T f).2.2.2 = false) (hde : parseFieldDescriptor (T f).2.2.1 = some ty) (hna : narrow ty v = v) (hfi : fits ty v = true) (he : ws[q0]? = some (a, .inr (ci, fs))) (hl0 : f < fs.length) (hw : ws.set q0 (a, .inr (ci, fs.set f v)) = ws1) (hd : decode cc pc = .ok (.putfield index, 3)) (k : bwR l g cc nL own nm ret rm PX Zf (pc + 3) lv st ws1 kc ks) : bwR l g cc nL own nm ret rm PX Zf pc lv (v :: .ref a :: st) ws kc ks := by
  intro p e s m args below meth c A H locs ls C hX hA hP hD hS hl
  subst hw
  exact va_put C.1 C.2.1 C.2.2.2.2.1 hin ty0 hty hnm C.2.2.2.1 C.2.2.2.2.2.2.2.2.1 hP hD hS q0 he hc f hf (C.2.2.2.2.1 _ hlink) (fun _ h => h) hfin hde hna hfi hl0 hd (fun H1 locs1 hP1 hD1 hS1 => k p e s m args below meth c A H1 locs1 ls C hX hA hP1 hD1 hS1 hl)
theorem bw_putF (C0 : String) (T : u_T) (N ci q0 f : Nat) {index a : Nat} {fs : List Value} {v : Value} {ty : FieldType} (ws1 : va_W) (ty0 : Nat → FieldType) (hty : ∀ k, k < N → parseFieldDescriptor (T k).2.2.1 = some (ty0 k)) (hnm : ∀ a, a < N → ∀ b, b < N → a ≠ b → (T a).2.1 ≠ (T b).2.1) (hin : ∀ w ∈ u_ws C0 T N, w ∈ bw_all) (hc : vwCl[ci]? = some (C0, T, N)) (hf : f < N) (hlink : Cond.fieldLink own index (T f).1 (T f).2.1 (T f).2.2.1 ∈ bw_all) (hfin : (T f).2.2.2 = true) (hn0 : nm = "<init>") (how : (T f).1 = own) (hde : parseFieldDescriptor (T f).2.2.1 = some ty) (hna : narrow ty v = v) (hfi : fits ty v = true) (he : ws[q0]? = some (a, .inr (ci, fs))) (hl0 : f < fs.length) (hw : ws.set q0 (a, .inr (ci, fs.set f v)) = ws1) (hd : decode cc pc = .ok (.putfield index, 3)) (k : bwR l g cc nL own nm ret rm PX Zf (pc + 3) lv st ws1 kc ks) : bwR l g cc nL own nm ret rm PX Zf pc lv (v :: .ref a :: st) ws kc ks := by
  intro p e s m args below meth c A H locs ls C hX hA hP hD hS hl
  subst hw
  exact va_putF C.1 C.2.1 C.2.2.2.2.1 hin ty0 hty hnm C.2.2.2.1 C.2.2.2.2.2.2.2.2.1 hP hD hS q0 he hc f hf (C.2.2.2.2.1 _ hlink) (fun _ h => h) hfin (C.2.2.2.2.2.2.2.1.trans hn0) how hde hna hfi hl0 hd (fun H1 locs1 hP1 hD1 hS1 => k p e s m args below meth c A H1 locs1 ls C hX hA hP1 hD1 hS1 hl)
theorem bw_iald (q0 : Nat) {a n : Nat} {f : Nat → Int32} {i : Int32} (he : ws[q0]? = some (a, .inl (g.2.1, n, .inl f))) (hin : vp_in i n) (hd : decode cc pc = .ok (.iaload, 1)) (k : bwR l g cc nL own nm ret rm PX Zf (pc + 1) lv (.int (f i.toNatClampNeg) :: st) ws kc ks) : bwR l g cc nL own nm ret rm PX Zf pc lv (.int i :: .ref a :: st) ws kc ks := by
  intro p e s m args below meth c A H locs ls C hX hA hP hD hS hl
  exact va_iald C.1 C.2.1 C.2.2.2.2.2.2.2.2.1 hP q0 0 he rfl hin hd (k p e s m args below meth c A H locs ls C hX hA hP hD hS hl)
theorem bw_cald (q0 : Nat) {a n : Nat} {f : Nat → Int32} {i : Int32} (he : ws[q0]? = some (a, .inl (g.2.2.1, n, .inl f))) (hin : vp_in i n) (hd : decode cc pc = .ok (.caload, 1)) (k : bwR l g cc nL own nm ret rm PX Zf (pc + 1) lv (.int (f i.toNatClampNeg) :: st) ws kc ks) : bwR l g cc nL own nm ret rm PX Zf pc lv (.int i :: .ref a :: st) ws kc ks := by
  intro p e s m args below meth c A H locs ls C hX hA hP hD hS hl
  exact va_cald C.1 C.2.1 C.2.2.2.2.2.2.2.2.1 hP q0 1 he rfl hin hd (k p e s m args below meth c A H locs ls C hX hA hP hD hS hl)
theorem bw_aald (q0 : Nat) {a n : Nat} {f : Nat → Option Nat} {i : Int32} (he : ws[q0]? = some (a, .inl (g.2.2.2, n, .inr (.inr (.inr (.inr f)))))) (hin : vp_in i n) (hd : decode cc pc = .ok (.aaload, 1)) (k : bwR l g cc nL own nm ret rm PX Zf (pc + 1) lv (va_rf (f i.toNatClampNeg) :: st) ws kc ks) : bwR l g cc nL own nm ret rm PX Zf pc lv (.int i :: .ref a :: st) ws kc ks := by
  intro p e s m args below meth c A H locs ls C hX hA hP hD hS hl
  exact va_aldq C.1 C.2.1 C.2.2.2.2.2.2.2.2.1 hP q0 2 he rfl hin hd (k p e s m args below meth c A H locs ls C hX hA hP hD hS hl)
theorem bw_iast (q0 : Nat) {a n : Nat} {f : Nat → Int32} {i x : Int32} (ws1 : va_W) (he : ws[q0]? = some (a, .inl (g.2.1, n, .inl f))) (hin : vp_in i n) (hw : ws.set q0 (a, .inl (g.2.1, n, .inl (upd f i.toNatClampNeg x))) = ws1) (hd : decode cc pc = .ok (.iastore, 1)) (k : bwR l g cc nL own nm ret rm PX Zf (pc + 1) lv st ws1 kc ks) : bwR l g cc nL own nm ret rm PX Zf pc lv (.int x :: .int i :: .ref a :: st) ws kc ks := by
  intro p e s m args below meth c A H locs ls C hX hA hP hD hS hl
  subst hw
  exact va_iast C.1 C.2.1 C.2.2.2.2.2.2.2.2.1 hP hD hS q0 0 he rfl hin hd (fun H1 locs1 hP1 hD1 hS1 => k p e s m args below meth c A H1 locs1 ls C hX hA hP1 hD1 hS1 hl)
theorem bw_cast (q0 : Nat) {a n : Nat} {f : Nat → Int32} {i x : Int32} (ws1 : va_W) (he : ws[q0]? = some (a, .inl (g.2.2.1, n, .inl f))) (hin : vp_in i n) (hw : ws.set q0 (a, .inl (g.2.2.1, n, .inl (upd f i.toNatClampNeg (vp_nar .char x)))) = ws1) (hd : decode cc pc = .ok (.castore, 1)) (k : bwR l g cc nL own nm ret rm PX Zf (pc + 1) lv st ws1 kc ks) : bwR l g cc nL own nm ret rm PX Zf pc lv (.int x :: .int i :: .ref a :: st) ws kc ks := by
  intro p e s m args below meth c A H locs ls C hX hA hP hD hS hl
  subst hw
  exact va_cast C.1 C.2.1 C.2.2.2.2.2.2.2.2.1 hP hD hS q0 1 he rfl hin hd (fun H1 locs1 hP1 hD1 hS1 => k p e s m args below meth c A H1 locs1 ls C hX hA hP1 hD1 hS1 hl)
theorem bw_aast (q0 qk : Nat) {a n v : Nat} {vs : List Value} {f : Nat → Option Nat} {i : Int32} (ws1 : va_W) (he : ws[q0]? = some (a, .inl (g.2.2.2, n, .inr (.inr (.inr (.inr f)))))) (hv : ws[qk]? = some (v, .inr (0, vs))) (hin : vp_in i n) (hw : ws.set q0 (a, .inl (g.2.2.2, n, .inr (.inr (.inr (.inr (va_up f i.toNatClampNeg (some v))))))) = ws1) (hd : decode cc pc = .ok (.aastore, 1)) (k : bwR l g cc nL own nm ret rm PX Zf (pc + 1) lv st ws1 kc ks) : bwR l g cc nL own nm ret rm PX Zf pc lv (.ref v :: .int i :: .ref a :: st) ws kc ks := by
  intro p e s m args below meth c A H locs ls C hX hA hP hD hS hl
  subst hw
  exact va_astq (r := (RX0, TX0, 8)) C.1 C.2.1 C.2.2.2.2.2.2.2.2.1 hP hD hS q0 2 qk 0 he rfl hv rfl hin hd (fun H1 locs1 hP1 hD1 hS1 => k p e s m args below meth c A H1 locs1 ls C hX hA hP1 hD1 hS1 hl)
theorem bw_alen (q0 t0 : Nat) {a : Nat} {cA : ClassId} {x : vp_A} {ty : FieldType} (v : Int32) (he : ws[q0]? = some (a, .inl (cA, x))) (ht : (bw_tys g)[t0]? = some (cA, ty)) (hv : Int32.ofNat x.1 = v) (hd : decode cc pc = .ok (.arraylength, 1)) (k : bwR l g cc nL own nm ret rm PX Zf (pc + 1) lv (.int v :: st) ws kc ks) : bwR l g cc nL own nm ret rm PX Zf pc lv (.ref a :: st) ws kc ks := by
  intro p e s m args below meth c A H locs ls C hX hA hP hD hS hl
  exact va_alen C.1 C.2.1 C.2.2.2.2.2.2.2.2.1 hP q0 t0 he ht hv hd (k p e s m args below meth c A H locs ls C hX hA hP hD hS hl)
/-- a new object: at any address (apart from all that are) -/
theorem bw_new (C0 : String) (T : u_T) (N ci : Nat) {index : Nat} (fs : List Value) (ty : Nat → FieldType) (hty : ∀ k, k < N → parseFieldDescriptor (T k).2.2.1 = some (ty k)) (hin : ∀ w ∈ u_ws C0 T N, w ∈ bw_all) (hc : vwCl[ci]? = some (C0, T, N)) (hcl : Cond.classLink own index C0 ∈ bw_all) (hins : Cond.instantiable C0 N ∈ bw_all) (hini : Cond.initialized C0 ∈ bw_all) (hfs : ∀ j, j < N → defaultValue (ty j) = vp_V fs j) (hcs : kc + 1 ≤ rm.cells ∧ ks + N ≤ rm.slots) (hd : decode cc pc = .ok (.new index, 3))
    (k : ∀ q : Nat, bwR l g cc nL own nm ret rm PX Zf (pc + 3) lv (.ref q :: st) (ws ++ [(q, .inr (ci, fs))]) (kc + 1) (ks + N)) : bwR l g cc nL own nm ret rm PX Zf pc lv st ws kc ks := by
  intro p e s m args below meth c A H locs ls C hX hA hP hD hS hl
  exact va_new C.1 C.2.1 C.2.2.2.2.1 hin ty hty C.2.2.2.1 (C.2.2.2.2.1 _ hcl) (C.2.2.2.2.1 _ hins) (C.2.2.2.2.1 _ hini) C.2.2.2.2.2.2.2.2.1 hP hD hS hA hc hfs hcs.1 hcs.2 hd (fun q H1 hP1 hD1 hS1 => k q p e s m args below meth c A H1 locs ls C hX hA hP1 hD1 hS1 hl)
theorem bw_newI (N : Nat) {n : Int32} (harr : Cond.arrayClass .int ∈ bw_all) (hn : ¬ n < 0) (hN : n.toNatClampNeg = N) (hby : N * componentBytes .int ≤ 536870912) (hcs : kc + 1 ≤ rm.cells ∧ ks + N ≤ rm.slots) (hd : decode cc pc = .ok (.newarray .int, 2))
    (k : ∀ q : Nat, bwR l g cc nL own nm ret rm PX Zf (pc + 2) lv (.ref q :: st) (ws ++ [(q, .inl (g.2.1, N, .inl (fun _ => 0)))]) (kc + 1) (ks + N)) : bwR l g cc nL own nm ret rm PX Zf pc lv (.int n :: st) ws kc ks := by
  intro p e s m args below meth c A H locs ls C hX hA hP hD hS hl
  refine va_newa (atype := .int) (ty := .int) (a0 := (N, .inl (fun _ => 0))) C.1 C.2.1 (C.2.2.2.2.1 _ harr) rfl C.2.2.2.2.2.2.2.2.1 hP hD hS hA (fun cA => by rfl) hn hN hby hcs.1 hcs.2 hd (fun q cA H1 hK1 hP1 hD1 hS1 => ?_)
  have e1 := ((hK1.2 3 (cA, .int) rfl).2 : s.vm.findClass _ = some cA)
  have e2 := ((hK1.2 0 (g.2.1, .int) rfl).2 : s.vm.findClass _ = some g.2.1)
  have e3 : cA = g.2.1 := Option.some.inj (e1.symm.trans e2)
  subst e3
  exact k q p e s m args below meth c A H1 locs ls C hX hA hP1 hD1 hS1 hl
theorem bw_newC (N : Nat) {n : Int32} (harr : Cond.arrayClass .char ∈ bw_all) (hn : ¬ n < 0) (hN : n.toNatClampNeg = N) (hby : N * componentBytes .char ≤ 536870912) (hcs : kc + 1 ≤ rm.cells ∧ ks + N ≤ rm.slots) (hd : decode cc pc = .ok (.newarray .char, 2))
    (k : ∀ q : Nat, bwR l g cc nL own nm ret rm PX Zf (pc + 2) lv (.ref q :: st) (ws ++ [(q, .inl (g.2.2.1, N, .inl (fun _ => 0)))]) (kc + 1) (ks + N)) : bwR l g cc nL own nm ret rm PX Zf pc lv (.int n :: st) ws kc ks := by
  intro p e s m args below meth c A H locs ls C hX hA hP hD hS hl
  refine va_newa (atype := .char) (ty := .char) (a0 := (N, .inl (fun _ => 0))) C.1 C.2.1 (C.2.2.2.2.1 _ harr) rfl C.2.2.2.2.2.2.2.2.1 hP hD hS hA (fun cA => by rfl) hn hN hby hcs.1 hcs.2 hd (fun q cA H1 hK1 hP1 hD1 hS1 => ?_)
  have e1 := ((hK1.2 3 (cA, .char) rfl).2 : s.vm.findClass _ = some cA)
  have e2 := ((hK1.2 1 (g.2.2.1, .char) rfl).2 : s.vm.findClass _ = some g.2.2.1)
  have e3 : cA = g.2.2.1 := Option.some.inj (e1.symm.trans e2)
  subst e3
  exact k q p e s m args below meth c A H1 locs ls C hX hA hP1 hD1 hS1 hl
theorem bw_newQ (N : Nat) {index : Nat} {n : Int32} (hcl : Cond.classLink own index RX0 ∈ bw_all) (hn : ¬ n < 0) (hN : n.toNatClampNeg = N) (hby : N * 4 ≤ 536870912) (hcs : kc + 1 ≤ rm.cells ∧ ks + N ≤ rm.slots) (hd : decode cc pc = .ok (.anewarray index, 3))
    (k : ∀ q : Nat, bwR l g cc nL own nm ret rm PX Zf (pc + 3) lv (.ref q :: st) (ws ++ [(q, .inl (g.2.2.2, N, .inr (.inr (.inr (.inr (fun _ => none))))))]) (kc + 1) (ks + N)) : bwR l g cc nL own nm ret rm PX Zf pc lv (.int n :: st) ws kc ks := by
  intro p e s m args below meth c A H locs ls C hX hA hP hD hS hl
  refine va_newq C.1 C.2.1 C.2.2.2.1 (C.2.2.2.2.1 _ hcl) C.2.2.2.2.2.2.2.2.2.2 C.2.2.2.2.2.2.2.2.1 hP hD hS hA hn hN hby hcs.1 hcs.2 hd (fun q cA H1 hK1 hP1 hD1 hS1 => ?_)
  obtain ⟨kA1, comp1, -, -, -, e1⟩ := ((hK1.2 3 (cA, .object RX0) rfl).2 : va_RA s cA (.object RX0))
  obtain ⟨kA2, comp2, -, -, -, e2⟩ := ((hK1.2 2 (g.2.2.2, .object RX0) rfl).2 : va_RA s g.2.2.2 (.object RX0))
  have e3 : cA = g.2.2.2 := Option.some.inj (e1.symm.trans e2)
  subst e3
  exact k q p e s m args below meth c A H1 locs ls C hX hA hP1 hD1 hS1 hl
theorem bw_objInit {idx a : Nat} (hlink : Cond.methodLink own idx Lib.objectInit ∈ bw_all) (hinst : Cond.instanceMethod Lib.objectInit ∈ bw_all) (hcode : Cond.code Lib.objectInit ⟨#[0xb1]⟩ 1 none ∈ bw_all) (hd : decode cc pc = .ok (.invokespecial idx, 3)) (hfr : 1 ≤ rm.frames) (hlo : (st.map fun v => v.category).sum + 12 ≤ rm.locals) (k : bwR l g cc nL own nm ret rm PX Zf (pc + 3) lv st ws kc ks) : bwR l g cc nL own nm ret rm PX Zf pc lv (.ref a :: st) ws kc ks := by
  intro p e s m args below meth c A H locs ls C hX hA hP hD hS hl
  refine W.objInit C.1 C.2.1 C.2.2.2.1 (C.2.2.2.2.1 _ hlink) (C.2.2.2.2.1 _ hinst) (C.2.2.2.2.1 _ hcode) rfl (by rw [C.2.2.1]; exact hl.1) rfl hd hfr (by show 2 * 0 + _ + 12 ≤ _; omega) ?_
  exact W.eq (g2 := F0 m (pc + 3) ls st) rfl (k p e s m args below meth c A H locs ls C hX hA hP hD hS hl)
theorem bw_mmax {index : Nat} {x y : Int32} (hlink : Cond.methodLink own index Lib.Math.max.name ∈ bw_all) (hstat : Cond.static Lib.Math.max.name ∈ bw_all) (hini : Cond.initialized "java/lang/Math" ∈ bw_all) (hcode : Cond.code Lib.Math.max.name Lib.Math.max.code 2 (some .int) ∈ bw_all) (hfr : 1 ≤ rm.frames) (hlo : (st.map fun v => v.category).sum + 13 ≤ rm.locals) (hcs : kc ≤ rm.cells ∧ ks ≤ rm.slots) (hd : decode cc pc = .ok (.invokestatic index, 3)) (k : bwR l g cc nL own nm ret rm PX Zf (pc + 3) lv (.int (if x < y then y else x) :: st) ws kc ks) : bwR l g cc nL own nm ret rm PX Zf pc lv (.int y :: .int x :: st) ws kc ks := by
  intro p e s m args below meth c A H locs ls C hX hA hP hD hS hl
  exact va_mmax C.1 C.2.1 (by rw [C.2.2.1]; exact hl.1.symm) C.2.2.2.1 (C.2.2.2.2.1 _ hlink) (C.2.2.2.2.1 _ hstat) (C.2.2.2.2.1 _ hini) (C.2.2.2.2.1 _ hcode) hfr hlo hcs.1 hcs.2 hd (k p e s m args below meth c A H locs ls C hX hA hP hD hS hl)
theorem bw_mmin {index : Nat} {x y : Int32} (hlink : Cond.methodLink own index Lib.Math.min.name ∈ bw_all) (hstat : Cond.static Lib.Math.min.name ∈ bw_all) (hini : Cond.initialized "java/lang/Math" ∈ bw_all) (hcode : Cond.code Lib.Math.min.name Lib.Math.min.code 2 (some .int) ∈ bw_all) (hfr : 1 ≤ rm.frames) (hlo : (st.map fun v => v.category).sum + 13 ≤ rm.locals) (hcs : kc ≤ rm.cells ∧ ks ≤ rm.slots) (hd : decode cc pc = .ok (.invokestatic index, 3)) (k : bwR l g cc nL own nm ret rm PX Zf (pc + 3) lv (.int (if y < x then y else x) :: st) ws kc ks) : bwR l g cc nL own nm ret rm PX Zf pc lv (.int y :: .int x :: st) ws kc ks := by
  intro p e s m args below meth c A H locs ls C hX hA hP hD hS hl
  exact va_mmin C.1 C.2.1 (by rw [C.2.2.1]; exact hl.1.symm) C.2.2.2.1 (C.2.2.2.2.1 _ hlink) (C.2.2.2.2.1 _ hstat) (C.2.2.2.2.1 _ hini) (C.2.2.2.2.1 _ hcode) hfr hlo hcs.1 hcs.2 hd (k p e s m args below meth c A H locs ls C hX hA hP hD hS hl)
/-- the ends: the answer and the cells are as Q says -/
theorem bw_ret {Q : Option Value → va_W → Prop} {mc ms : Nat} {v : Int32} {ty : FieldType} (hr : ret = some ty) (hn : narrow ty (.int v) = .int v) (hk : kc ≤ mc) (hs : ks ≤ ms) (hd : decode cc pc = .ok (.ireturn, 1)) (hQ : Q (some (.int v)) ws) : bwR l g cc nL own nm ret rm bwT (bwZ g Q mc ms) pc lv [.int v] ws kc ks := by
  intro p e s m args below meth c A H locs ls C hX hA hP hD hS hl
  refine W.widen hk hs (W.zret (hlocks := C.2.2.2.2.2.2.1) C.1 C.2.1 (C.2.2.2.2.2.1.trans hr) hn (fun t ht hW => ⟨⟨_, ws, rfl, hQ, by rw [ht]; exact hP, hD⟩, hS.F ht⟩) hS.2.2 hd)
theorem bw_vret {Q : Option Value → va_W → Prop} {mc ms : Nat} (hr : ret = none) (hk : kc ≤ mc) (hs : ks ≤ ms) (hd : decode cc pc = .ok (.return_, 1)) (hQ : Q none ws) : bwR l g cc nL own nm ret rm bwT (bwZ g Q mc ms) pc lv [] ws kc ks := by
  intro p e s m args below meth c A H locs ls C hX hA hP hD hS hl
  refine W.widen hk hs (W.vret (hlocks := C.2.2.2.2.2.2.1) C.1 C.2.1 (C.2.2.2.2.2.1.trans hr) (fun t ht hW => ⟨⟨_, ws, rfl, hQ, by rw [ht]; exact hP, hD⟩, hS.F ht⟩) hS.2.2 hd)
theorem bw_aret {Q : Option Value → va_W → Prop} {mc ms : Nat} {a : Nat} {cn : String} (hr : ret = some (.object cn)) (hk : kc ≤ mc) (hs : ks ≤ ms) (hd : decode cc pc = .ok (.areturn, 1)) (hQ : Q (some (.ref a)) ws) : bwR l g cc nL own nm ret rm bwT (bwZ g Q mc ms) pc lv [.ref a] ws kc ks := by
  intro p e s m args below meth c A H locs ls C hX hA hP hD hS hl
  refine W.widen hk hs (W.aret (hlocks := C.2.2.2.2.2.2.1) C.1 C.2.1 (C.2.2.2.2.2.1.trans hr) (Or.inl ⟨_, rfl⟩) (Or.inr ⟨_, rfl⟩) (fun t ht hW => ⟨⟨_, ws, rfl, hQ, by rw [ht]; exact hP, hD⟩, hS.F ht⟩) hS.2.2 hd)
end BWR
/-- a contract out of the walk of the body -/
theorem bwS_of {l : Launch} {g : bwG} {y : MethodName} {cc : ByteArray} {nL : Nat} {ret : Option FieldType} {rm : Room} {as : List Value} {ws : va_W} {Q : Option Value → va_W → Prop} (hy : plainName y.cls = true) (hsl : (lg_sl as).length ≤ nL)
    (h : bwR l g cc nL y.cls y.name ret rm bwT (bwZ g Q rm.cells rm.slots) 0 (lv_args 0 as) [] ws 0 0) : bwS l g y cc nL ret rm as ws Q := by
  intro sz
  refine Met.ofW (cc := cc) (maxL := nL) (ret := ret) hy rfl ?_
  intro p e s m args below meth c s₁ B hml hv
  obtain ⟨rfl, hsz, hP, hK, hN, hD0⟩ := hv
  have hts := atoms_spec (ws := .code y cc nL ret :: bw_all) B.pre
  subst hsz
  rw [lg_entry_eq]
  exact h p e s m as.toArray below meth c (va_A ws s.heap.size) s.heap [] _ ⟨B.exec, B.bytes, hml, findClass_of_methodNamed B.named, fun w hw => hts w (List.mem_cons_of_mem _ hw), B.returns, B.notSynchronized, (name_of_methodNamed B.named B.method).1, hK, hN⟩ trivial (fun q hq => Or.inr hq) hP hD0.self va_S.rf (lv_entry as hsl)

section BWC
variable {l : Launch} {g : bwG} {cc : ByteArray} {nL : Nat} {own nm : String} {ret : Option FieldType} {rm : Room} {PX : State → Array Value → (Nat → Prop) → Prop} {Zf : State → Array Value → List Frame → (Nat → Prop) → State → Prop} {pc : Nat} {lv : List (Nat × Value)} {st : List Value} {ws : va_W} {kc ks : Nat}
/-- what stands behind a call: the callee's cells wc, taken out of ws, come back as w1 -/
theorem bw_back {p : Program} {e : Env} {s : State} {m : MethodId} {args : Array Value} {below : List Frame} {meth : Method} {c : Code} {A : Nat → Prop} {H : Heap} {locs : List Loc} {ls : Array Slot} {Q' : Option Value → va_W → Prop} {wc wr : va_W} {mc ms : Nat} {st0 rest : List Value} {aa : Array Value}
    (C : bwC g cc nL own nm ret p s m args meth c) (hX : PX s args A) (hA : ∀ q : Nat, s.heap.size ≤ q → A q) (hP : va_P g.1 vwCl ws H) (hD : va_D A ws) (hS : va_S A s.heap H locs) (hl : lv_has ls nL lv) (hperm : (wc ++ wr).Perm ws)
    (hr : va_Run p l e rm s m args below meth c H locs kc ks mc ms (F0 m pc ls st0) rest (bwQ g Q' (va_A wc H.size) aa) (va_A wc H.size))
    (k : ∀ (r : Option Value) (w1 : va_W), Q' r w1 → bwR l g cc nL own nm ret rm PX Zf (pc + 3) lv (r.toList ++ rest) (wr ++ w1) (kc + mc) (ks + ms)) : W p l e rm s m args below meth c H locs kc ks (Zf s args below A) (F0 m pc ls st0) := by
  intro T hT X
  obtain ⟨v, st₀, t, T', L, h0, X', hL, e1, e2, ⟨⟨r, w1, hv, hq, hP1, hD1⟩, hz, hk⟩, st⟩ := hr T hT X
  cases hv
  rw [h0] at hz hk
  have hmem : ∀ q ∈ wc, A q.1 := fun q hq => bw_D2' hD q (hperm.mem_iff.mp (List.mem_append_left _ hq))
  have hwA : ∀ q : Nat, va_A wc H.size q → A q := by
    intro q hq
    rcases hq with ⟨i, e0, hi⟩ | hq
    · exact hmem (q, e0) (List.mem_of_getElem? hi)
    · exact hA q (Nat.le_trans hS.1 hq)
  have hS1 : va_S A s.heap T'.heap (locs ++ L) := by
    refine ⟨Nat.le_trans hS.1 (by rw [e1]; exact hz), fun q h1 h2 => ?_, fun q hq => ?_⟩
    · rw [e1, hk q (Nat.lt_of_lt_of_le h1 hS.1) (fun z => h2 (hwA q z))]
      exact hS.2.1 q h1 h2
    · rcases List.mem_append.mp hq with h | h
      · exact hS.2.2 q h
      · exact hwA _ (hL q h)
  have hDp : va_D A (wc ++ wr) := bw_Dp hperm hD
  have hnd := bw_D1 hDp
  rw [List.map_append, List.nodup_append] at hnd
  have hPr : va_P g.1 vwCl wr T'.heap := by
    intro i q hq
    have hqm : q ∈ wr := List.mem_of_getElem? hq
    obtain ⟨j, hj⟩ := List.getElem?_of_mem (hperm.mem_iff.mp (List.mem_append_right wc hqm))
    have hat := hP j q hj
    refine hat.kept ?_
    rw [e1]
    refine hk q.1 hat.lt (fun z => ?_)
    rcases z with ⟨i2, e0, hi2⟩ | z
    · exact hnd.2.2 q.1 (List.mem_map.mpr ⟨(q.1, e0), List.mem_of_getElem? hi2, rfl⟩) q.1 (List.mem_map.mpr ⟨q, hqm, rfl⟩) rfl
    · exact absurd hat.lt (by omega)
  have hPa : va_P g.1 vwCl (wr ++ w1) T'.heap := va_P.app hPr (by rw [e1]; exact hP1)
  have hDa : va_D A (wr ++ w1) := by
    refine bw_D2 ?_ ?_
    · rw [List.map_append, List.nodup_append]
      refine ⟨hnd.2.1, bw_D1 hD1, ?_⟩
      intro a ha b hb hab
      subst hab
      obtain ⟨q, hq, rfl⟩ := List.mem_map.mp ha
      obtain ⟨q2, hq2, e3⟩ := List.mem_map.mp hb
      obtain ⟨j, hj⟩ := List.getElem?_of_mem (hperm.mem_iff.mp (List.mem_append_right wc hq))
      have hlt := (hP j q hj).lt
      have h4 := bw_D2' hD1 q2 hq2
      rw [e3] at h4
      rcases h4 with ⟨i2, e0, hi2⟩ | z
      · exact hnd.2.2 q.1 (List.mem_map.mpr ⟨(q.1, e0), List.mem_of_getElem? hi2, rfl⟩) q.1 (List.mem_map.mpr ⟨q, hq, rfl⟩) rfl
      · omega
    · intro q hq
      rcases List.mem_append.mp hq with h | h
      · exact bw_D2' hDp q (List.mem_append_right _ h)
      · exact hwA _ (bw_D2' hD1 q h)
  obtain ⟨t2, a1, b1⟩ := k _ w1 hq p e s m args below meth c A T'.heap (locs ++ L) ls C hX hA hPa hDa hS1 hl T' rfl X'
  exact ⟨t2, st t2 a1, b1⟩
theorem bw_callV (As rest : List Value) (wr : va_W) (q0 ci : Nat) {y : MethodName} {cy : ByteArray} {nLy : Nat} {rety : Option FieldType} {rmy : Room} {wc : va_W} {Q' : Option Value → va_W → Prop} {b : Nat} {fs : List Value} {T : u_T} {N index : Nat} (hM : bwS l g y cy nLy rety rmy (.ref b :: As) wc Q') (hst : st = As.reverse ++ .ref b :: rest) (hcode : Cond.code y cy nLy rety ∈ bw_all) (hini : Cond.initialized y.cls ∈ bw_all) (hlink : Cond.methodLink own index y ∈ bw_all) (hinst : Cond.instanceMethod y ∈ bw_all) (hsel : Cond.selects y.cls y y ∈ bw_all)
    (hy1 : y.cls ≠ "java/lang/invoke/MethodHandle" ∧ y.cls ≠ "java/lang/invoke/VarHandle" ∧ (parseMethodDescriptor y.desc).map (fun d => d.parameters.length) = some As.length) (hR : rmy.frames + 1 ≤ rm.frames ∧ 8 + (nLy + 11) + rmy.locals ≤ rm.locals) (hcs : kc + rmy.cells ≤ rm.cells ∧ ks + rmy.slots ≤ rm.slots) (hq0 : wc[q0]? = some (b, .inr (ci, fs))) (hci : vwCl[ci]? = some (y.cls, T, N)) (hperm : (wc ++ wr).Perm ws) (hro : (rest.map fun v => v.category).sum ≤ 8) (hd : decode cc pc = .ok (.invokevirtual index, 3))
    (k : ∀ (r : Option Value) (w1 : va_W), Q' r w1 → bwR l g cc nL own nm ret rm PX Zf (pc + 3) lv (r.toList ++ rest) (wr ++ w1) (kc + rmy.cells) (ks + rmy.slots)) : bwR l g cc nL own nm ret rm PX Zf pc lv st ws kc ks := by
  intro p e s m args below meth c A H locs ls C hX hA hP hD hS hl
  subst hst
  have hPc : va_P g.1 vwCl wc H := bw_P (fun q hq => hperm.mem_iff.mp (List.mem_append_left _ hq)) hP
  have hDc : va_D (fun _ => True) wc := by
    have h1 := bw_D1 (bw_Dp hperm hD)
    rw [List.map_append, List.nodup_append] at h1
    exact bw_D2 h1.1 (fun _ _ => trivial)
  have hG : GoodIn bw_all (.code y cy nLy rety :: bw_all) := fun w hw => (List.mem_cons.mp hw).elim (fun e0 => by subst e0; exact bw_good _ hcode) (fun h => bw_good w h)
  refine bw_back C hX hA hP hD hS hl hperm (va_runV (As := As) (rest := rest) (C := y.cls) (bytes := cy) (maxL := nLy) (ret := rety) ⟨C.1, C.2.1, C.2.2.1, C.2.2.2.1, C.2.2.2.2.1⟩ (hM H.size) ⟨callB_of As.length C.2.2.2.2.1 hG rfl rfl rfl (C.2.2.2.2.1 _ hini) (C.2.2.2.2.1 _ hlink) hy1 hR, C.2.2.2.2.1 _ hinst, C.2.2.2.2.1 _ hsel⟩ ⟨bw_blind, va_recv C.2.2.2.2.2.2.2.2.1 hPc hci hq0, fun U hU hW => ⟨rfl, by rw [hU], by rw [hU]; exact hPc, va_K.moved hW.alike C.2.2.2.2.2.2.2.2.1, bw_nestW hW C.2.2.2.2.2.2.2.2.2, hDc⟩⟩ rfl rfl hl.1 rfl (lv_room hro) hd hcs) k
theorem bw_callS (As rest : List Value) (wr : va_W) {y : MethodName} {cy : ByteArray} {nLy : Nat} {rety : Option FieldType} {rmy : Room} {wc : va_W} {Q' : Option Value → va_W → Prop} {index : Nat} (hM : bwS l g y cy nLy rety rmy As wc Q') (hst : st = As.reverse ++ rest) (hcode : Cond.code y cy nLy rety ∈ bw_all) (hini : Cond.initialized y.cls ∈ bw_all) (hlink : Cond.methodLink own index y ∈ bw_all) (hstat : Cond.static y ∈ bw_all)
    (hy1 : y.cls ≠ "java/lang/invoke/MethodHandle" ∧ y.cls ≠ "java/lang/invoke/VarHandle" ∧ (parseMethodDescriptor y.desc).map (fun d => d.parameters.length) = some As.length) (hR : rmy.frames + 1 ≤ rm.frames ∧ 8 + (nLy + 11) + rmy.locals ≤ rm.locals) (hcs : kc + rmy.cells ≤ rm.cells ∧ ks + rmy.slots ≤ rm.slots) (hperm : (wc ++ wr).Perm ws) (hro : (rest.map fun v => v.category).sum ≤ 8) (hd : decode cc pc = .ok (.invokestatic index, 3))
    (k : ∀ (r : Option Value) (w1 : va_W), Q' r w1 → bwR l g cc nL own nm ret rm PX Zf (pc + 3) lv (r.toList ++ rest) (wr ++ w1) (kc + rmy.cells) (ks + rmy.slots)) : bwR l g cc nL own nm ret rm PX Zf pc lv st ws kc ks := by
  intro p e s m args below meth c A H locs ls C hX hA hP hD hS hl
  subst hst
  have hPc : va_P g.1 vwCl wc H := bw_P (fun q hq => hperm.mem_iff.mp (List.mem_append_left _ hq)) hP
  have hDc : va_D (fun _ => True) wc := by
    have h1 := bw_D1 (bw_Dp hperm hD)
    rw [List.map_append, List.nodup_append] at h1
    exact bw_D2 h1.1 (fun _ _ => trivial)
  have hG : GoodIn bw_all (.code y cy nLy rety :: bw_all) := fun w hw => (List.mem_cons.mp hw).elim (fun e0 => by subst e0; exact bw_good _ hcode) (fun h => bw_good w h)
  refine bw_back C hX hA hP hD hS hl hperm (va_runS (As := As) (rest := rest) (bytes := cy) (maxL := nLy) (ret := rety) ⟨C.1, C.2.1, C.2.2.1, C.2.2.2.1, C.2.2.2.2.1⟩ (hM H.size) ⟨callB_of As.length C.2.2.2.2.1 hG rfl rfl rfl (C.2.2.2.2.1 _ hini) (C.2.2.2.2.1 _ hlink) hy1 hR, C.2.2.2.2.1 _ hstat⟩ ⟨bw_blind, fun U hU hW => ⟨rfl, by rw [hU], by rw [hU]; exact hPc, va_K.moved hW.alike C.2.2.2.2.2.2.2.2.1, bw_nestW hW C.2.2.2.2.2.2.2.2.2, hDc⟩⟩ rfl rfl hl.1 rfl (lv_room hro) hd hcs) k
theorem bw_callSN (host : String) (As rest : List Value) (wr : va_W) {y : MethodName} {cy : ByteArray} {nLy : Nat} {rety : Option FieldType} {rmy : Room} {wc : va_W} {Q' : Option Value → va_W → Prop} {index : Nat} (hM : bwS l g y cy nLy rety rmy As wc Q') (hst : st = As.reverse ++ rest) (hcode : Cond.code y cy nLy rety ∈ bw_all) (hini : Cond.initialized y.cls ∈ bw_all) (hlink : Cond.methodLinkNest own index y host ∈ bw_nest) (hstat : Cond.static y ∈ bw_all)
    (hy1 : y.cls ≠ "java/lang/invoke/MethodHandle" ∧ y.cls ≠ "java/lang/invoke/VarHandle" ∧ (parseMethodDescriptor y.desc).map (fun d => d.parameters.length) = some As.length) (hR : rmy.frames + 1 ≤ rm.frames ∧ 8 + (nLy + 11) + rmy.locals ≤ rm.locals) (hcs : kc + rmy.cells ≤ rm.cells ∧ ks + rmy.slots ≤ rm.slots) (hperm : (wc ++ wr).Perm ws) (hro : (rest.map fun v => v.category).sum ≤ 8) (hd : decode cc pc = .ok (.invokestatic index, 3))
    (k : ∀ (r : Option Value) (w1 : va_W), Q' r w1 → bwR l g cc nL own nm ret rm PX Zf (pc + 3) lv (r.toList ++ rest) (wr ++ w1) (kc + rmy.cells) (ks + rmy.slots)) : bwR l g cc nL own nm ret rm PX Zf pc lv st ws kc ks := by
  intro p e s m args below meth c A H locs ls C hX hA hP hD hS hl
  subst hst
  have hPc : va_P g.1 vwCl wc H := bw_P (fun q hq => hperm.mem_iff.mp (List.mem_append_left _ hq)) hP
  have hDc : va_D (fun _ => True) wc := by
    have h1 := bw_D1 (bw_Dp hperm hD)
    rw [List.map_append, List.nodup_append] at h1
    exact bw_D2 h1.1 (fun _ _ => trivial)
  have hG : GoodIn bw_all (.code y cy nLy rety :: bw_all) := fun w hw => (List.mem_cons.mp hw).elim (fun e0 => by subst e0; exact bw_good _ hcode) (fun h => bw_good w h)
  refine bw_back C hX hA hP hD hS hl hperm (va_runSN (host := host) (As := As) (rest := rest) (bytes := cy) (maxL := nLy) (ret := rety) ⟨C.1, C.2.1, C.2.2.1, C.2.2.2.1, C.2.2.2.2.1⟩ (hM H.size) ⟨va_cnB As.length C.2.2.2.2.1 hG rfl rfl rfl (C.2.2.2.2.2.2.2.2.2.1 _ hlink) (C.2.2.2.2.1 _ hini) hy1 hR, C.2.2.2.2.1 _ hstat, trivial⟩ ⟨bw_blind, fun U hU hW => ⟨rfl, by rw [hU], by rw [hU]; exact hPc, va_K.moved hW.alike C.2.2.2.2.2.2.2.2.1, bw_nestW hW C.2.2.2.2.2.2.2.2.2, hDc⟩⟩ rfl rfl hl.1 rfl (lv_room hro) hd hcs) k
theorem bw_callI (As rest : List Value) (wr : va_W) {y : MethodName} {cy : ByteArray} {nLy : Nat} {rmy : Room} {wc : va_W} {Q' : Option Value → va_W → Prop} {b : Nat} {index : Nat} (hM : bwS l g y cy nLy none rmy (.ref b :: As) wc Q') (hst : st = As.reverse ++ .ref b :: rest) (hcode : Cond.code y cy nLy none ∈ bw_all) (hini : Cond.initialized y.cls ∈ bw_all) (hlink : Cond.methodLink own index y ∈ bw_all) (hinst : Cond.instanceMethod y ∈ bw_all) (hnm : y.name = "<init>")
    (hy1 : y.cls ≠ "java/lang/invoke/MethodHandle" ∧ y.cls ≠ "java/lang/invoke/VarHandle" ∧ (parseMethodDescriptor y.desc).map (fun d => d.parameters.length) = some As.length) (hR : rmy.frames + 1 ≤ rm.frames ∧ 8 + (nLy + 11) + rmy.locals ≤ rm.locals) (hcs : kc + rmy.cells ≤ rm.cells ∧ ks + rmy.slots ≤ rm.slots) (hperm : (wc ++ wr).Perm ws) (hro : (rest.map fun v => v.category).sum ≤ 8) (hd : decode cc pc = .ok (.invokespecial index, 3))
    (k : ∀ (r : Option Value) (w1 : va_W), Q' r w1 → bwR l g cc nL own nm ret rm PX Zf (pc + 3) lv (r.toList ++ rest) (wr ++ w1) (kc + rmy.cells) (ks + rmy.slots)) : bwR l g cc nL own nm ret rm PX Zf pc lv st ws kc ks := by
  intro p e s m args below meth c A H locs ls C hX hA hP hD hS hl
  subst hst
  have hPc : va_P g.1 vwCl wc H := bw_P (fun q hq => hperm.mem_iff.mp (List.mem_append_left _ hq)) hP
  have hDc : va_D (fun _ => True) wc := by
    have h1 := bw_D1 (bw_Dp hperm hD)
    rw [List.map_append, List.nodup_append] at h1
    exact bw_D2 h1.1 (fun _ _ => trivial)
  have hG : GoodIn bw_all (.code y cy nLy none :: bw_all) := fun w hw => (List.mem_cons.mp hw).elim (fun e0 => by subst e0; exact bw_good _ hcode) (fun h => bw_good w h)
  refine bw_back C hX hA hP hD hS hl hperm (va_runI (As := As) (rest := rest) (bytes := cy) (maxL := nLy) ⟨C.1, C.2.1, C.2.2.1, C.2.2.2.1, C.2.2.2.2.1⟩ (hM H.size) ⟨callB_of As.length C.2.2.2.2.1 hG rfl rfl rfl (C.2.2.2.2.1 _ hini) (C.2.2.2.2.1 _ hlink) hy1 hR, hnm, C.2.2.2.2.1 _ hinst⟩ ⟨bw_blind, fun U hU hW => ⟨rfl, by rw [hU], by rw [hU]; exact hPc, va_K.moved hW.alike C.2.2.2.2.2.2.2.2.1, bw_nestW hW C.2.2.2.2.2.2.2.2.2, hDc⟩⟩ rfl rfl hl.1 rfl (lv_room hro) hd hcs) k
theorem bw_callIN (host : String) (As rest : List Value) (wr : va_W) {y : MethodName} {cy : ByteArray} {nLy : Nat} {rmy : Room} {wc : va_W} {Q' : Option Value → va_W → Prop} {b : Nat} {index : Nat} (hM : bwS l g y cy nLy none rmy (.ref b :: As) wc Q') (hst : st = As.reverse ++ .ref b :: rest) (hcode : Cond.code y cy nLy none ∈ bw_all) (hini : Cond.initialized y.cls ∈ bw_all) (hlink : Cond.methodLinkNest own index y host ∈ bw_nest) (hinst : Cond.instanceMethod y ∈ bw_all) (hnm : y.name = "<init>")
    (hy1 : y.cls ≠ "java/lang/invoke/MethodHandle" ∧ y.cls ≠ "java/lang/invoke/VarHandle" ∧ (parseMethodDescriptor y.desc).map (fun d => d.parameters.length) = some As.length) (hR : rmy.frames + 1 ≤ rm.frames ∧ 8 + (nLy + 11) + rmy.locals ≤ rm.locals) (hcs : kc + rmy.cells ≤ rm.cells ∧ ks + rmy.slots ≤ rm.slots) (hperm : (wc ++ wr).Perm ws) (hro : (rest.map fun v => v.category).sum ≤ 8) (hd : decode cc pc = .ok (.invokespecial index, 3))
    (k : ∀ (r : Option Value) (w1 : va_W), Q' r w1 → bwR l g cc nL own nm ret rm PX Zf (pc + 3) lv (r.toList ++ rest) (wr ++ w1) (kc + rmy.cells) (ks + rmy.slots)) : bwR l g cc nL own nm ret rm PX Zf pc lv st ws kc ks := by
  intro p e s m args below meth c A H locs ls C hX hA hP hD hS hl
  subst hst
  have hPc : va_P g.1 vwCl wc H := bw_P (fun q hq => hperm.mem_iff.mp (List.mem_append_left _ hq)) hP
  have hDc : va_D (fun _ => True) wc := by
    have h1 := bw_D1 (bw_Dp hperm hD)
    rw [List.map_append, List.nodup_append] at h1
    exact bw_D2 h1.1 (fun _ _ => trivial)
  have hG : GoodIn bw_all (.code y cy nLy none :: bw_all) := fun w hw => (List.mem_cons.mp hw).elim (fun e0 => by subst e0; exact bw_good _ hcode) (fun h => bw_good w h)
  refine bw_back C hX hA hP hD hS hl hperm (va_runIN (host := host) (As := As) (rest := rest) (bytes := cy) (maxL := nLy) ⟨C.1, C.2.1, C.2.2.1, C.2.2.2.1, C.2.2.2.2.1⟩ (hM H.size) ⟨va_cnB As.length C.2.2.2.2.1 hG rfl rfl rfl (C.2.2.2.2.2.2.2.2.2.1 _ hlink) (C.2.2.2.2.1 _ hini) hy1 hR, hnm, C.2.2.2.2.1 _ hinst⟩ ⟨bw_blind, fun U hU hW => ⟨rfl, by rw [hU], by rw [hU]; exact hPc, va_K.moved hW.alike C.2.2.2.2.2.2.2.2.1, bw_nestW hW C.2.2.2.2.2.2.2.2.2, hDc⟩⟩ rfl rfl hl.1 rfl (lv_room hro) hd hcs) k
end BWC
theorem bw_chk {P : Prop} [Decidable P] {α : Type} {K : Option α} {r : α} (h : (if P then K else none) = some r) : P ∧ K = some r := by
  by_cases hp : P
  · rw [if_pos hp] at h; exact ⟨hp, h⟩
  · rw [if_neg hp] at h; cases h
