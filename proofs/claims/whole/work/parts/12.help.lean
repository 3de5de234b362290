/-! small words of the decompiled functions, and what their walks use -/
def bw_F : Nat := 5000
abbrev bw_in (i : Int32) (n : Nat) : Prop := ¬ (i < 0 ∨ n ≤ i.toNatClampNeg)
abbrev bw_nb (x : Int32) : Prop := x = 0 ∨ x = 1
abbrev bw_nc (x : Int32) : Prop := vp_nar .char x = x
abbrev bw_ushr (x : Int64) (y : Int32) : Int64 := (x.toUInt64 >>> (y.toInt64.toUInt64 &&& Int64.toUInt64 63)).toInt64
theorem bw_nbp {x : Int32} (h : bw_nb x) : narrow .boolean (.int x) = .int x := by
  rcases h with h | h <;> subst h <;> rfl
theorem bw_ncp {x : Int32} (h : bw_nc x) : narrow .char (.int x) = .int x := by
  have h1 : vp_nar .char x = x := h
  rw [vp_nar_char] at h1
  show Value.int _ = _
  exact congrArg Value.int h1
theorem bw_pos {c : Prop} [Decidable c] {α : Type} {t e r : α} (hc : c) (h : (if c then t else e) = r) : t = r := (if_pos hc).symm.trans h
theorem bw_neg {c : Prop} [Decidable c] {α : Type} {t e r : α} (hc : ¬ c) (h : (if c then t else e) = r) : e = r := (if_neg hc).symm.trans h
theorem bw_bind {α β : Type} {x : Option α} {f : α → Option β} {r : β} (h : x.bind f = some r) : ∃ a, x = some a ∧ f a = some r := Option.bind_eq_some_iff.mp h
theorem bw_pick1 {α : Type} {X Y : List α} (n : Nat) (is : List Nat) (hl : X.length = n) (hY : is.filterMap (fun i => X[i]?) = Y) (h : is.Perm (List.range n)) : Y.Perm X := by
  subst hl; subst hY
  exact bw_pick X is h
theorem bw_pickT1 {α : Type} {A B Y tl : List α} (n : Nat) (is js : List Nat) (X : List α) (hX : X ++ tl = Y) (hl : X.length = n) (hA : is.filterMap (fun i => X[i]?) = A) (hB : js.filterMap (fun i => X[i]?) ++ tl = B) (h : (is ++ js).Perm (List.range n)) : (A ++ B).Perm Y := by
  subst hl; subst hA; subst hB; subst hX
  have h1 := bw_pick X (is ++ js) h
  rw [List.filterMap_append] at h1
  rw [← List.append_assoc]
  exact h1.append_right tl
theorem bw_pickT2 {α : Type} {A B Y tl : List α} (n : Nat) (is js : List Nat) (X : List α) (hX : X ++ tl = Y) (hl : X.length = n) (hA : is.filterMap (fun i => X[i]?) ++ tl = A) (hB : js.filterMap (fun i => X[i]?) = B) (h : (is ++ js).Perm (List.range n)) : (A ++ B).Perm Y := by
  subst hl; subst hA; subst hB; subst hX
  have h1 := bw_pick X (is ++ js) h
  rw [List.filterMap_append] at h1
  rw [List.append_assoc]
  refine (List.Perm.append_left _ List.perm_append_comm).trans ?_
  rw [← List.append_assoc]
  exact h1.append_right tl
theorem bw_pickT3 {α : Type} {tl Y : List α} (n : Nat) (is : List Nat) (R W X : List α) (hl : (R ++ W).length = n) (hX : is.filterMap (fun i => (R ++ W)[i]?) = X) (h : is.Perm (List.range n)) (hY : X ++ tl = Y := by rfl) : Y.Perm ((R ++ tl) ++ W) := by
  subst hl; subst hX; subst hY
  have h1 := bw_pick (R ++ W) is h
  refine (h1.append_right tl).trans ?_
  rw [List.append_assoc, List.append_assoc]
  exact List.Perm.append_left _ List.perm_append_comm
theorem bw_pickT4 {α : Type} {tl Y Z : List α} (n : Nat) (is : List Nat) (R W X : List α) (hl : (R ++ W).length = n) (hX : is.filterMap (fun i => (R ++ W)[i]?) = X) (h : is.Perm (List.range n)) (hY : X ++ tl = Y := by rfl) (hZ : W ++ tl = Z := by rfl) : Y.Perm (R ++ Z) := by
  subst hl; subst hX; subst hY; subst hZ
  have h1 := bw_pick (R ++ W) is h
  refine (h1.append_right tl).trans ?_
  rw [List.append_assoc]
section BWK
variable {l : Launch} {g : bwG} {cc : ByteArray} {nL : Nat} {own nm : String} {ret : Option FieldType} {rm : Room} {PX : State → Array Value → (Nat → Prop) → Prop} {Zf : State → Array Value → List Frame → (Nat → Prop) → State → Prop} {pc : Nat} {lv : List (Nat × Value)} {st : List Value} {ws : va_W} {kc ks : Nat}
theorem bw_gf {C0 : String} {T : u_T} {N ci : Nat} {ty0 : Nat → FieldType} (hK : bwK C0 T N ci ty0) (q0 f : Nat) {index a : Nat} {fs : List Value} {v : Value} (hf : f < N) (hlink : Cond.fieldLink own index (T f).1 (T f).2.1 (T f).2.2.1 ∈ bw_all) (he : ws[q0]? = some (a, .inr (ci, fs))) (hv : fs[f]? = some v) (hd : decode cc pc = .ok (.getfield index, 3)) (k : bwR l g cc nL own nm ret rm PX Zf (pc + 3) lv (v :: st) ws kc ks) : bwR l g cc nL own nm ret rm PX Zf pc lv (.ref a :: st) ws kc ks :=
  bw_get C0 T N ci q0 f hK.1 hK.2.1 hf hlink he hv hd k
theorem bw_pf {C0 : String} {T : u_T} {N ci : Nat} {ty0 : Nat → FieldType} (hK : bwK C0 T N ci ty0) (q0 f : Nat) {index a : Nat} {fs : List Value} {v : Value} {ty : FieldType} (ws1 : va_W) (hf : f < N) (hlink : Cond.fieldLink own index (T f).1 (T f).2.1 (T f).2.2.1 ∈ bw_all) (hfin : (T f).2.2.2 = false) (hty : ty0 f = ty) (hna : narrow ty v = v) (hfi : fits ty v = true) (he : ws[q0]? = some (a, .inr (ci, fs))) (hl0 : f < fs.length) (hw : ws.set q0 (a, .inr (ci, fs.set f v)) = ws1) (hd : decode cc pc = .ok (.putfield index, 3)) (k : bwR l g cc nL own nm ret rm PX Zf (pc + 3) lv st ws1 kc ks) : bwR l g cc nL own nm ret rm PX Zf pc lv (v :: .ref a :: st) ws kc ks :=
  bw_put C0 T N ci q0 f ws1 ty0 hK.2.2.1 hK.2.2.2 hK.1 hK.2.1 hf hlink hfin (by rw [hK.2.2.1 f hf, hty]) hna hfi he hl0 hw hd k
end BWK
