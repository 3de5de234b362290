def R_law : String := "BowSpeechesLaw"
def lw_P (b : Addr) (xs : List Int32) (args : Array Value) (s : State) : Prop := args = #[.ref b] ∧ s.IntsAt b xs ∧ xs.length ≤ 2048 ∧ (Jvm.Cond.and given_1 narrow_1).before args s = true
def lw_Q (_ : Array Value) (s : State) (o : Outcome) (t : State) : Prop := o = .returned (some (.int 1)) ∧ Framed s o t [] 600000 7302250
def lw_Z (below : List Frame) (a : Array Value) (s : State) : State → Prop := fun t => ∃ o, t.status = .running ∧ Ended t below o ∧ lw_Q a s o t
/-- the law's own end, with 1 on the stack, nothing written that was there before, its room as the claim has it -/
theorem lw_ret {p : Program} {l : Launch} {e : Env} {s : State} {m : MethodId} {below : List Frame} {meth : Method} {c : Code} {b : Nat} (hx : p.tables.exec = Jvm.exec) (hb : c.code = code) (hr : meth.sig.returnType = ret) (hlocks : meth.locks = false) {pc : Nat} {H : Heap} {ls : Array Slot} (hdg : decode code pc = .ok (.ireturn, 1)) : W p l e room_1 s m #[Value.ref b] below meth c H [] 600000 7302250 (lw_Z below #[Value.ref b] s) (F0 m pc ls [.int 1]) := by
  intro T hT X
  obtain ⟨fs, hret, hrun, hended, hW, hframe⟩ := X.leave (v := some (.int 1)) (hlocks := hlocks) (fun h => by rw [hr] at h; cases h)
  have hmeth' : T.vm.method? m = some meth := X.method'
  refine ⟨T.setFrames fs, ?_, .returned (some (.int 1)), hrun, hended, rfl, ⟨_, rfl⟩, hW, hframe⟩
  jvm_step X.here [X.here.top, hx, hb, hdg, hmeth', hr, ret, narrow_b1]
  (try refine ⟨rfl, ?_⟩); (try refine ⟨rfl, ?_⟩)
  first | (intro acts; rw [hret _ acts rfl rfl rfl]) | rw [hret _ _ rfl rfl rfl]
  exact Steps.refl _
/-- what holds at the law's entry: the machine, the code, the tables' words (any of lw_tbl by 'hts w (by decide +kernel)'), the script of L ints xs at the cell b, what the Statement gives of the start (any of its parts by flat_of_before) -/
def lw_At (p : Program) (s : State) (m : MethodId) (meth : Method) (c : Code) (b L : Nat) (xs : Nat → Int32) : Prop :=
  p.tables.exec = Jvm.exec ∧ c.code = code ∧ meth.sig.returnType = ret ∧ c.maxLocals = 4 ∧ s.vm.findClass R_law = some m.cls ∧ (∀ w ∈ lw_tbl, w.before #[Value.ref b] s = true) ∧ va_X b L xs s s.heap ∧ b < s.heap.size ∧ meth.locks = false ∧ (Jvm.Cond.and given_1 narrow_1).before #[Value.ref b] s = true
/-! the law: its loop, over any relation between the two states that every call keeps -/
def bwPL (b L : Nat) (xs : Nat → Int32) : State → Array Value → (Nat → Prop) → Prop := fun s args A => args = #[Value.ref b] ∧ va_X b L xs s s.heap ∧ b < s.heap.size ∧ ¬ A b ∧ ∀ q : Nat, A q → s.heap.size ≤ q
def bwZL : State → Array Value → List Frame → (Nat → Prop) → State → Prop := fun s args below _ => lw_Z below args s
section LAWR
variable {l : Launch} {g : bwG} {cc : ByteArray} {nL : Nat} {own nm : String} {ret : Option FieldType} {rm : Room} {Zf : State → Array Value → List Frame → (Nat → Prop) → State → Prop} {pc : Nat} {lv : List (Nat × Value)} {st : List Value} {ws : va_W} {kc ks : Nat} {b L : Nat} {xs : Nat → Int32}
theorem bw_sld {i : Int32} (hin : bw_in i L) (hd : decode cc pc = .ok (.iaload, 1)) (k : bwR l g cc nL own nm ret rm (bwPL b L xs) Zf (pc + 1) lv (.int (xs i.toNatClampNeg) :: st) ws kc ks) : bwR l g cc nL own nm ret rm (bwPL b L xs) Zf pc lv (.int i :: .ref b :: st) ws kc ks := by
  intro p e s m args below meth c A H locs ls C hX hA hP hD hS hl
  exact va_sld C.1 C.2.1 hX.2.1 hX.2.2.1 hX.2.2.2.1 hS hin hd (k p e s m args below meth c A H locs ls C hX hA hP hD hS hl)
theorem bw_slen (hd : decode cc pc = .ok (.arraylength, 1)) (k : bwR l g cc nL own nm ret rm (bwPL b L xs) Zf (pc + 1) lv (.int (nI L) :: st) ws kc ks) : bwR l g cc nL own nm ret rm (bwPL b L xs) Zf pc lv (.ref b :: st) ws kc ks := by
  intro p e s m args below meth c A H locs ls C hX hA hP hD hS hl
  exact va_slen C.1 C.2.1 hX.2.1 hX.2.2.1 hX.2.2.2.1 hS hd (k p e s m args below meth c A H locs ls C hX hA hP hD hS hl)
end LAWR
theorem bw_lret {l : Launch} {g : bwG} {nL : Nat} {own nm : String} {pc : Nat} {lv : List (Nat × Value)} {ws : va_W} {kc ks : Nat} {b L : Nat} {xs : Nat → Int32} (hk : kc ≤ 600000) (hs : ks ≤ 7302250) (hd : decode code pc = .ok (.ireturn, 1)) : bwR l g code nL own nm ret room_1 (bwPL b L xs) bwZL pc lv [.int 1] ws kc ks := by
  intro p e s m args below meth c A H locs ls C hX hA hP hD hS hl
  obtain ⟨rfl, hX⟩ := hX
  refine va_forget (fun q hq => hX.2.2.2 _ (hS.2.2 q hq)) ?_
  refine W.widen hk hs ?_
  exact lw_ret C.1 C.2.1 C.2.2.2.2.2.1 C.2.2.2.2.2.2.1 hd
theorem bw_ix {j L : Nat} (h : 4 * j + 4 ≤ L) (hL : L ≤ 2048) : bw_in (nI (4 * j)) L ∧ bw_in (nI (4 * j) + 1) L ∧ bw_in (nI (4 * j) + 2) L ∧ bw_in (nI (4 * j) + 3) L :=
  ⟨vp_in_nI (by omega) (by omega), (nI_add (4 * j) 1) ▸ vp_in_nI (by omega) (by omega), (nI_add (4 * j) 2) ▸ vp_in_nI (by omega) (by omega), (nI_add (4 * j) 3) ▸ vp_in_nI (by omega) (by omega)⟩
theorem bw_lim {j L : Nat} (hj : 4 * j ≤ L) (hL : L ≤ 2048) (h : ¬ nI L - 4 < nI (4 * j)) : 4 * j + 4 ≤ L := by
  have e1 : (nI L - 4).toInt = (L : Int) - (4 : Nat) := pk_sub_toInt (a := L) (b := 4) (by omega) (by omega)
  have e2 : (nI (4 * j)).toInt = ((4 * j : Nat) : Int) := nI_toInt (by omega)
  have h2 : ¬ (nI L - 4).toInt < (nI (4 * j)).toInt := fun q => h (Int32.lt_iff_toInt_lt.mpr q)
  rw [e1, e2] at h2
  omega
theorem bw_nx (j : Nat) : nI (4 * j) + Int32.ofInt 4 = nI (4 * (j + 1)) := by
  show nI (4 * j) + nI 4 = _
  rw [nI_add]
  exact congrArg nI (by omega)
set_option maxHeartbeats 8000000 in
set_option maxRecDepth 100000 in
theorem law_loop (l : Launch) (g : bwG) (nm : String) (a b : Nat → Nat) (bs L : Nat) (xs : Nat → Int32) (hL : L ≤ 2048) (R : bwX → bwMd → Prop)
    (h_set : ∀ (p0 : Int32) (p1 : Int32), bwO R (fun x => x_set x p0 p1) (fun m => m_set m p0 p1))
    (h_eyes : ∀ (p0 : Int32) (p1 : Int32), bwO R (fun x => x_eyes x p0 p1) (fun m => m_eyes m p0 p1))
    (h_bow : ∀ (p0 : Int32) (p1 : Int32) (p2 : Int32), bwO R (fun x => x_bow x p0 p1 p2) (fun m => m_bow m p0 p1 p2))
    (h_takeBack : bwO R (fun x => x_takeBack x ) (fun m => m_takeBack m ))
    (h_read : bwO R (fun x => x_read x ) (fun m => m_read m ))
    (h_hush : bwO R (fun x => x_hush x ) (fun m => m_hush m ))
    (h_give : bwO R (fun x => x_give x ) (fun m => m_give m ))
    (h_speech : ∀ (p0 : Int32) (p1 : Int32), bwO R (fun x => x_speech x p0 p1) (fun m => m_speech m p0 p1))
    (h_word : ∀ (p0 : Int32) (p1 : Int32), bwO R (fun x => x_word x p0 p1) (fun m => m_word m p0 p1))
    (h_sentence : ∀ (p0 : Int32) (p1 : Int32) (p2 : Int32), bwO R (fun x => x_sentence x p0 p1 p2) (fun m => m_sentence m p0 p1 p2))
    (h_favour : ∀ (p0 : Int32) (p1 : Int32), bwO R (fun x => x_favour x p0 p1) (fun m => m_favour m p0 p1))
    (h_count : ∀ (p0 : Int32), bwO R (fun x => x_count x p0) (fun m => m_count m p0))
    (h_courtier : ∀ (p0 : Int32) (p1 : Int32), bwO R (fun x => x_courtier x p0 p1) (fun m => m_courtier m p0 p1))
    (h_ifGiven : ∀ (p0 : Int32) (p1 : Int32), bwO R (fun x => x_ifGiven x p0 p1) (fun m => m_ifGiven m p0 p1))
    (h_bestBow : bwO R (fun x => x_bestBow x ) (fun m => m_bestBow m ))
    (h_darling : bwO R (fun x => x_darling x ) (fun m => m_darling m ))
    (h_put : ∀ (p0 : Int64), bwO R (fun x => x_put x p0) (fun m => m_put m p0))
    (h_wipe : bwO R (fun x => x_wipe x ) (fun m => m_wipe m ))
    (h_fault : bwO R (fun x => x_fault x ) (fun m => m_fault m ))
    (h_undo : bwO R (fun x => x_undo x ) (fun m => m_undo m ))
    (h_save : ∀ (p0 : Int32), bwO R (fun x => x_save x p0) (fun m => m_save m p0))
    (h_restore : ∀ (p0 : Int32), bwO R (fun x => x_restore x p0) (fun m => m_restore m p0)) : ∀ (n j : Nat), L < 4 * (j + n) → 4 * j ≤ L → ∀ (x : bwX) (m : bwMd) (td th : bwHA), R x m →
    bwR l g code 4 RL nm ret room_1 (bwPL bs L xs) bwZL 18 [(3, .int (nI (4 * j))), (0, .ref bs), (1, .ref (a 0)), (2, .ref (b 0))] [] (bw_WX g a td th x ++ bw_WM g b m) (60 + 6 * j) (2000 + 101 * j) := by
  intro n
  induction n with
  | zero => intro j h1 h2; exact absurd h2 (by omega)
  | succ n ih =>
    intro j h1 h2 x m td th hR
    have hj : j ≤ 512 := by omega
    refine bw_iload_n 0 dL_law_18 rfl rfl ?_
    refine bw_aload_n 1 dL_law_19 rfl rfl ?_
    refine bw_slen dL_law_20 ?_
    refine bw_iconst 4 dL_law_21 (by decide) ?_
    refine bw_isub dL_law_22 ?_
    refine bw_icmp_gt 698 dL_law_23 (by decide) (fun c_0 => ?_) (fun c_0 => ?_)
    · refine bw_iconst 1 dL_law_698 (by decide) ?_
      exact bw_lret (by omega) (by omega) dL_law_699
    have h3 := bw_lim h2 hL c_0
    obtain ⟨i0, i1, i2, i3⟩ := bw_ix h3 hL
    -- behind each case: on to the next four
    have nxt : ∀ (x1 : bwX) (m1 : bwMd) (td1 th1 : bwHA) (k n1 : Nat), R x1 m1 → k ≤ 60 + 6 * (j + 1) → n1 ≤ 2000 + 101 * (j + 1) → bwR l g code 4 RL nm ret room_1 (bwPL bs L xs) bwZL 692 [(3, .int (nI (4 * j))), (0, .ref bs), (1, .ref (a 0)), (2, .ref (b 0))] [] (bw_WX g a td1 th1 x1 ++ bw_WM g b m1) k n1 := by
      intro x1 m1 td1 th1 k n1 hR1 hk hn
      refine bw_iinc 0 (nI (4 * (j + 1))) [(3, .int (nI (4 * (j + 1)))), (0, .ref bs), (1, .ref (a 0)), (2, .ref (b 0))] dL_law_692 rfl (bw_nx j) (by decide) rfl ?_
      refine bw_goto 18 dL_law_695 (by decide) ?_
      refine bw_wide hk hn ?_
      exact ih (j + 1) (by omega) (by omega) x1 m1 td1 th1 hR1
    refine bw_aload_n 1 dL_law_26 rfl rfl ?_
    refine bw_iload_n 0 dL_law_27 rfl rfl ?_
    refine bw_sld i0 dL_law_28 ?_
    refine bw_bipush 31 dL_law_29 (by decide) ?_
    refine bw_iand dL_law_31 ?_
    generalize xs (Int32.toNatClampNeg (nI (4 * j))) &&& 31 = v
    rcases Decidable.em (v = 0) with c_1 | c_1
    · refine bw_tableIn (off := 104) 136 dL_law_32 (by rw [c_1]; decide) (by rw [c_1]; decide) (by rw [c_1]; rfl) (by decide) ?_
      refine bw_aload_n 2 dL_law_136 rfl rfl ?_
      refine bw_aload_n 1 dL_law_137 rfl rfl ?_
      refine bw_iload_n 0 dL_law_138 rfl rfl ?_
      refine bw_iconst 1 dL_law_139 (by decide) ?_
      refine bw_iadd dL_law_140 ?_
      refine bw_sld i1 dL_law_141 ?_
      refine bw_aload_n 1 dL_law_142 rfl rfl ?_
      refine bw_iload_n 0 dL_law_143 rfl rfl ?_
      refine bw_iconst 2 dL_law_144 (by decide) ?_
      refine bw_iadd dL_law_145 ?_
      refine bw_sld i2 dL_law_146 ?_
      obtain ⟨r, x1, m1, hx, hm, hR1⟩ := h_set (xs (Int32.toNatClampNeg (nI (4 * j) + 1))) (xs (Int32.toNatClampNeg (nI (4 * j) + 2))) x m hR
      refine bw_callV [.int (xs (Int32.toNatClampNeg (nI (4 * j) + 1))), .int (xs (Int32.toNatClampNeg (nI (4 * j) + 2)))] [] (bw_WM g b m) 0 4 (t_X4_set l g a td th x (xs (Int32.toNatClampNeg (nI (4 * j) + 1))) (xs (Int32.toNatClampNeg (nI (4 * j) + 2))) (r, x1) hx) rfl co_X4_set ini_X4 ml_L_13 im_X4_set se_X4_set ar_X4_set ⟨Nat.le_of_ble_eq_true rfl, Nat.le_of_ble_eq_true rfl⟩ ⟨by show 60 + 6 * j + 6 ≤ 600000; omega, by show 2000 + 101 * j + 101 ≤ 7302250; omega⟩ rfl rfl (List.Perm.refl _) (Nat.le_of_ble_eq_true rfl) dL_law_147 (fun r1 w1 hq => ?_)
      obtain ⟨rfl, td1, th1, rfl⟩ := hq
      refine bw_st (st1 := [.int r]) rfl ?_
      refine bw_aload_n 3 dL_law_150 rfl rfl ?_
      refine bw_aload_n 1 dL_law_151 rfl rfl ?_
      refine bw_iload_n 0 dL_law_152 rfl rfl ?_
      refine bw_iconst 1 dL_law_153 (by decide) ?_
      refine bw_iadd dL_law_154 ?_
      refine bw_sld i1 dL_law_155 ?_
      refine bw_aload_n 1 dL_law_156 rfl rfl ?_
      refine bw_iload_n 0 dL_law_157 rfl rfl ?_
      refine bw_iconst 2 dL_law_158 (by decide) ?_
      refine bw_iadd dL_law_159 ?_
      refine bw_sld i2 dL_law_160 ?_
      refine bw_callV [.int (xs (Int32.toNatClampNeg (nI (4 * j) + 1))), .int (xs (Int32.toNatClampNeg (nI (4 * j) + 2)))] [.int r] (bw_WX g a td1 th1 x1) 0 5 (t_X5_set l g b m (xs (Int32.toNatClampNeg (nI (4 * j) + 1))) (xs (Int32.toNatClampNeg (nI (4 * j) + 2))) (r, m1) hm) rfl co_X5_set ini_X5 ml_L_17 im_X5_set se_X5_set ar_X5_set ⟨Nat.le_of_ble_eq_true rfl, Nat.le_of_ble_eq_true rfl⟩ ⟨by show 60 + 6 * j + 6 + 0 ≤ 600000; omega, by show 2000 + 101 * j + 101 + 0 ≤ 7302250; omega⟩ rfl rfl (List.Perm.refl _) (Nat.le_of_ble_eq_true rfl) dL_law_161 (fun r1 w1 hq => ?_)
      obtain ⟨rfl, rfl⟩ := hq
      refine bw_st (st1 := [.int r, .int r]) rfl ?_
      refine bw_icmp_eq 692 dL_law_164 (by decide) (fun _ => ?_) (fun c => absurd rfl c)
      exact nxt x1 m1 td1 th1 _ _ hR1 (by show 60 + 6 * j + 6 + 0 ≤ _; omega) (by show 2000 + 101 * j + 101 + 0 ≤ _; omega)
    rcases Decidable.em (v = 1) with c_2 | c_2
    · refine bw_tableIn (off := 137) 169 dL_law_32 (by rw [c_2]; decide) (by rw [c_2]; decide) (by rw [c_2]; rfl) (by decide) ?_
      refine bw_aload_n 2 dL_law_169 rfl rfl ?_
      refine bw_aload_n 1 dL_law_170 rfl rfl ?_
      refine bw_iload_n 0 dL_law_171 rfl rfl ?_
      refine bw_iconst 1 dL_law_172 (by decide) ?_
      refine bw_iadd dL_law_173 ?_
      refine bw_sld i1 dL_law_174 ?_
      refine bw_aload_n 1 dL_law_175 rfl rfl ?_
      refine bw_iload_n 0 dL_law_176 rfl rfl ?_
      refine bw_iconst 2 dL_law_177 (by decide) ?_
      refine bw_iadd dL_law_178 ?_
      refine bw_sld i2 dL_law_179 ?_
      obtain ⟨r, x1, m1, hx, hm, hR1⟩ := h_eyes (xs (Int32.toNatClampNeg (nI (4 * j) + 1))) (xs (Int32.toNatClampNeg (nI (4 * j) + 2))) x m hR
      refine bw_callV [.int (xs (Int32.toNatClampNeg (nI (4 * j) + 1))), .int (xs (Int32.toNatClampNeg (nI (4 * j) + 2)))] [] (bw_WM g b m) 0 4 (t_X4_eyes l g a td th x (xs (Int32.toNatClampNeg (nI (4 * j) + 1))) (xs (Int32.toNatClampNeg (nI (4 * j) + 2))) (r, x1) hx) rfl co_X4_eyes ini_X4 ml_L_18 im_X4_eyes se_X4_eyes ar_X4_eyes ⟨Nat.le_of_ble_eq_true rfl, Nat.le_of_ble_eq_true rfl⟩ ⟨by show 60 + 6 * j + 6 ≤ 600000; omega, by show 2000 + 101 * j + 101 ≤ 7302250; omega⟩ rfl rfl (List.Perm.refl _) (Nat.le_of_ble_eq_true rfl) dL_law_180 (fun r1 w1 hq => ?_)
      obtain ⟨rfl, td1, th1, rfl⟩ := hq
      refine bw_st (st1 := [.int r]) rfl ?_
      refine bw_aload_n 3 dL_law_183 rfl rfl ?_
      refine bw_aload_n 1 dL_law_184 rfl rfl ?_
      refine bw_iload_n 0 dL_law_185 rfl rfl ?_
      refine bw_iconst 1 dL_law_186 (by decide) ?_
      refine bw_iadd dL_law_187 ?_
      refine bw_sld i1 dL_law_188 ?_
      refine bw_aload_n 1 dL_law_189 rfl rfl ?_
      refine bw_iload_n 0 dL_law_190 rfl rfl ?_
      refine bw_iconst 2 dL_law_191 (by decide) ?_
      refine bw_iadd dL_law_192 ?_
      refine bw_sld i2 dL_law_193 ?_
      refine bw_callV [.int (xs (Int32.toNatClampNeg (nI (4 * j) + 1))), .int (xs (Int32.toNatClampNeg (nI (4 * j) + 2)))] [.int r] (bw_WX g a td1 th1 x1) 0 5 (t_X5_eyes l g b m (xs (Int32.toNatClampNeg (nI (4 * j) + 1))) (xs (Int32.toNatClampNeg (nI (4 * j) + 2))) (r, m1) hm) rfl co_X5_eyes ini_X5 ml_L_21 im_X5_eyes se_X5_eyes ar_X5_eyes ⟨Nat.le_of_ble_eq_true rfl, Nat.le_of_ble_eq_true rfl⟩ ⟨by show 60 + 6 * j + 6 + 0 ≤ 600000; omega, by show 2000 + 101 * j + 101 + 0 ≤ 7302250; omega⟩ rfl rfl (List.Perm.refl _) (Nat.le_of_ble_eq_true rfl) dL_law_194 (fun r1 w1 hq => ?_)
      obtain ⟨rfl, rfl⟩ := hq
      refine bw_st (st1 := [.int r, .int r]) rfl ?_
      refine bw_icmp_eq 692 dL_law_197 (by decide) (fun _ => ?_) (fun c => absurd rfl c)
      exact nxt x1 m1 td1 th1 _ _ hR1 (by show 60 + 6 * j + 6 + 0 ≤ _; omega) (by show 2000 + 101 * j + 101 + 0 ≤ _; omega)
    rcases Decidable.em (v = 2) with c_3 | c_3
    · refine bw_tableIn (off := 170) 202 dL_law_32 (by rw [c_3]; decide) (by rw [c_3]; decide) (by rw [c_3]; rfl) (by decide) ?_
      refine bw_aload_n 2 dL_law_202 rfl rfl ?_
      refine bw_aload_n 1 dL_law_203 rfl rfl ?_
      refine bw_iload_n 0 dL_law_204 rfl rfl ?_
      refine bw_iconst 1 dL_law_205 (by decide) ?_
      refine bw_iadd dL_law_206 ?_
      refine bw_sld i1 dL_law_207 ?_
      refine bw_aload_n 1 dL_law_208 rfl rfl ?_
      refine bw_iload_n 0 dL_law_209 rfl rfl ?_
      refine bw_iconst 2 dL_law_210 (by decide) ?_
      refine bw_iadd dL_law_211 ?_
      refine bw_sld i2 dL_law_212 ?_
      refine bw_aload_n 1 dL_law_213 rfl rfl ?_
      refine bw_iload_n 0 dL_law_214 rfl rfl ?_
      refine bw_iconst 3 dL_law_215 (by decide) ?_
      refine bw_iadd dL_law_216 ?_
      refine bw_sld i3 dL_law_217 ?_
      obtain ⟨r, x1, m1, hx, hm, hR1⟩ := h_bow (xs (Int32.toNatClampNeg (nI (4 * j) + 1))) (xs (Int32.toNatClampNeg (nI (4 * j) + 2))) (xs (Int32.toNatClampNeg (nI (4 * j) + 3))) x m hR
      refine bw_callV [.int (xs (Int32.toNatClampNeg (nI (4 * j) + 1))), .int (xs (Int32.toNatClampNeg (nI (4 * j) + 2))), .int (xs (Int32.toNatClampNeg (nI (4 * j) + 3)))] [] (bw_WM g b m) 0 4 (t_X4_bow l g a td th x (xs (Int32.toNatClampNeg (nI (4 * j) + 1))) (xs (Int32.toNatClampNeg (nI (4 * j) + 2))) (xs (Int32.toNatClampNeg (nI (4 * j) + 3))) (r, x1) hx) rfl co_X4_bow ini_X4 ml_L_22 im_X4_bow se_X4_bow ar_X4_bow ⟨Nat.le_of_ble_eq_true rfl, Nat.le_of_ble_eq_true rfl⟩ ⟨by show 60 + 6 * j + 6 ≤ 600000; omega, by show 2000 + 101 * j + 101 ≤ 7302250; omega⟩ rfl rfl (List.Perm.refl _) (Nat.le_of_ble_eq_true rfl) dL_law_218 (fun r1 w1 hq => ?_)
      obtain ⟨rfl, td1, th1, rfl⟩ := hq
      refine bw_st (st1 := [.int r]) rfl ?_
      refine bw_aload_n 3 dL_law_221 rfl rfl ?_
      refine bw_aload_n 1 dL_law_222 rfl rfl ?_
      refine bw_iload_n 0 dL_law_223 rfl rfl ?_
      refine bw_iconst 1 dL_law_224 (by decide) ?_
      refine bw_iadd dL_law_225 ?_
      refine bw_sld i1 dL_law_226 ?_
      refine bw_aload_n 1 dL_law_227 rfl rfl ?_
      refine bw_iload_n 0 dL_law_228 rfl rfl ?_
      refine bw_iconst 2 dL_law_229 (by decide) ?_
      refine bw_iadd dL_law_230 ?_
      refine bw_sld i2 dL_law_231 ?_
      refine bw_aload_n 1 dL_law_232 rfl rfl ?_
      refine bw_iload_n 0 dL_law_233 rfl rfl ?_
      refine bw_iconst 3 dL_law_234 (by decide) ?_
      refine bw_iadd dL_law_235 ?_
      refine bw_sld i3 dL_law_236 ?_
      refine bw_callV [.int (xs (Int32.toNatClampNeg (nI (4 * j) + 1))), .int (xs (Int32.toNatClampNeg (nI (4 * j) + 2))), .int (xs (Int32.toNatClampNeg (nI (4 * j) + 3)))] [.int r] (bw_WX g a td1 th1 x1) 0 5 (t_X5_bow l g b m (xs (Int32.toNatClampNeg (nI (4 * j) + 1))) (xs (Int32.toNatClampNeg (nI (4 * j) + 2))) (xs (Int32.toNatClampNeg (nI (4 * j) + 3))) (r, m1) hm) rfl co_X5_bow ini_X5 ml_L_26 im_X5_bow se_X5_bow ar_X5_bow ⟨Nat.le_of_ble_eq_true rfl, Nat.le_of_ble_eq_true rfl⟩ ⟨by show 60 + 6 * j + 6 + 0 ≤ 600000; omega, by show 2000 + 101 * j + 101 + 0 ≤ 7302250; omega⟩ rfl rfl (List.Perm.refl _) (Nat.le_of_ble_eq_true rfl) dL_law_237 (fun r1 w1 hq => ?_)
      obtain ⟨rfl, rfl⟩ := hq
      refine bw_st (st1 := [.int r, .int r]) rfl ?_
      refine bw_icmp_eq 692 dL_law_240 (by decide) (fun _ => ?_) (fun c => absurd rfl c)
      exact nxt x1 m1 td1 th1 _ _ hR1 (by show 60 + 6 * j + 6 + 0 ≤ _; omega) (by show 2000 + 101 * j + 101 + 0 ≤ _; omega)
    rcases Decidable.em (v = 3) with c_4 | c_4
    · refine bw_tableIn (off := 213) 245 dL_law_32 (by rw [c_4]; decide) (by rw [c_4]; decide) (by rw [c_4]; rfl) (by decide) ?_
      refine bw_aload_n 2 dL_law_245 rfl rfl ?_
      obtain ⟨r, x1, m1, hx, hm, hR1⟩ := h_takeBack  x m hR
      refine bw_callV [] [] (bw_WM g b m) 0 4 (t_X4_takeBack l g a td th x  (r, x1) hx) rfl co_X4_takeBack ini_X4 ml_L_27 im_X4_takeBack se_X4_takeBack ar_X4_takeBack ⟨Nat.le_of_ble_eq_true rfl, Nat.le_of_ble_eq_true rfl⟩ ⟨by show 60 + 6 * j + 6 ≤ 600000; omega, by show 2000 + 101 * j + 101 ≤ 7302250; omega⟩ rfl rfl (List.Perm.refl _) (Nat.le_of_ble_eq_true rfl) dL_law_246 (fun r1 w1 hq => ?_)
      obtain ⟨rfl, td1, th1, rfl⟩ := hq
      refine bw_st (st1 := [.int r]) rfl ?_
      refine bw_aload_n 3 dL_law_249 rfl rfl ?_
      refine bw_callV [] [.int r] (bw_WX g a td1 th1 x1) 0 5 (t_X5_takeBack l g b m  (r, m1) hm) rfl co_X5_takeBack ini_X5 ml_L_31 im_X5_takeBack se_X5_takeBack ar_X5_takeBack ⟨Nat.le_of_ble_eq_true rfl, Nat.le_of_ble_eq_true rfl⟩ ⟨by show 60 + 6 * j + 6 + 0 ≤ 600000; omega, by show 2000 + 101 * j + 101 + 0 ≤ 7302250; omega⟩ rfl rfl (List.Perm.refl _) (Nat.le_of_ble_eq_true rfl) dL_law_250 (fun r1 w1 hq => ?_)
      obtain ⟨rfl, rfl⟩ := hq
      refine bw_st (st1 := [.int r, .int r]) rfl ?_
      refine bw_icmp_eq 692 dL_law_253 (by decide) (fun _ => ?_) (fun c => absurd rfl c)
      exact nxt x1 m1 td1 th1 _ _ hR1 (by show 60 + 6 * j + 6 + 0 ≤ _; omega) (by show 2000 + 101 * j + 101 + 0 ≤ _; omega)
    rcases Decidable.em (v = 4) with c_5 | c_5
    · refine bw_tableIn (off := 226) 258 dL_law_32 (by rw [c_5]; decide) (by rw [c_5]; decide) (by rw [c_5]; rfl) (by decide) ?_
      refine bw_aload_n 2 dL_law_258 rfl rfl ?_
      obtain ⟨r, x1, m1, hx, hm, hR1⟩ := h_read  x m hR
      refine bw_callV [] [] (bw_WM g b m) 0 4 (t_X4_read l g a td th x  (r, x1) hx) rfl co_X4_read ini_X4 ml_L_32 im_X4_read se_X4_read ar_X4_read ⟨Nat.le_of_ble_eq_true rfl, Nat.le_of_ble_eq_true rfl⟩ ⟨by show 60 + 6 * j + 6 ≤ 600000; omega, by show 2000 + 101 * j + 101 ≤ 7302250; omega⟩ rfl rfl (List.Perm.refl _) (Nat.le_of_ble_eq_true rfl) dL_law_259 (fun r1 w1 hq => ?_)
      obtain ⟨rfl, td1, th1, rfl⟩ := hq
      refine bw_st (st1 := [.int r]) rfl ?_
      refine bw_aload_n 3 dL_law_262 rfl rfl ?_
      refine bw_callV [] [.int r] (bw_WX g a td1 th1 x1) 0 5 (t_X5_read l g b m  (r, m1) hm) rfl co_X5_read ini_X5 ml_L_35 im_X5_read se_X5_read ar_X5_read ⟨Nat.le_of_ble_eq_true rfl, Nat.le_of_ble_eq_true rfl⟩ ⟨by show 60 + 6 * j + 6 + 0 ≤ 600000; omega, by show 2000 + 101 * j + 101 + 0 ≤ 7302250; omega⟩ rfl rfl (List.Perm.refl _) (Nat.le_of_ble_eq_true rfl) dL_law_263 (fun r1 w1 hq => ?_)
      obtain ⟨rfl, rfl⟩ := hq
      refine bw_st (st1 := [.int r, .int r]) rfl ?_
      refine bw_icmp_eq 692 dL_law_266 (by decide) (fun _ => ?_) (fun c => absurd rfl c)
      exact nxt x1 m1 td1 th1 _ _ hR1 (by show 60 + 6 * j + 6 + 0 ≤ _; omega) (by show 2000 + 101 * j + 101 + 0 ≤ _; omega)
    rcases Decidable.em (v = 5) with c_6 | c_6
    · refine bw_tableIn (off := 239) 271 dL_law_32 (by rw [c_6]; decide) (by rw [c_6]; decide) (by rw [c_6]; rfl) (by decide) ?_
      refine bw_aload_n 2 dL_law_271 rfl rfl ?_
      obtain ⟨r, x1, m1, hx, hm, hR1⟩ := h_hush  x m hR
      refine bw_callV [] [] (bw_WM g b m) 0 4 (t_X4_hush l g a td th x  (r, x1) hx) rfl co_X4_hush ini_X4 ml_L_36 im_X4_hush se_X4_hush ar_X4_hush ⟨Nat.le_of_ble_eq_true rfl, Nat.le_of_ble_eq_true rfl⟩ ⟨by show 60 + 6 * j + 6 ≤ 600000; omega, by show 2000 + 101 * j + 101 ≤ 7302250; omega⟩ rfl rfl (List.Perm.refl _) (Nat.le_of_ble_eq_true rfl) dL_law_272 (fun r1 w1 hq => ?_)
      obtain ⟨rfl, td1, th1, rfl⟩ := hq
      refine bw_st (st1 := [.int r]) rfl ?_
      refine bw_aload_n 3 dL_law_275 rfl rfl ?_
      refine bw_callV [] [.int r] (bw_WX g a td1 th1 x1) 0 5 (t_X5_hush l g b m  (r, m1) hm) rfl co_X5_hush ini_X5 ml_L_39 im_X5_hush se_X5_hush ar_X5_hush ⟨Nat.le_of_ble_eq_true rfl, Nat.le_of_ble_eq_true rfl⟩ ⟨by show 60 + 6 * j + 6 + 0 ≤ 600000; omega, by show 2000 + 101 * j + 101 + 0 ≤ 7302250; omega⟩ rfl rfl (List.Perm.refl _) (Nat.le_of_ble_eq_true rfl) dL_law_276 (fun r1 w1 hq => ?_)
      obtain ⟨rfl, rfl⟩ := hq
      refine bw_st (st1 := [.int r, .int r]) rfl ?_
      refine bw_icmp_eq 692 dL_law_279 (by decide) (fun _ => ?_) (fun c => absurd rfl c)
      exact nxt x1 m1 td1 th1 _ _ hR1 (by show 60 + 6 * j + 6 + 0 ≤ _; omega) (by show 2000 + 101 * j + 101 + 0 ≤ _; omega)
    rcases Decidable.em (v = 6) with c_7 | c_7
    · refine bw_tableIn (off := 252) 284 dL_law_32 (by rw [c_7]; decide) (by rw [c_7]; decide) (by rw [c_7]; rfl) (by decide) ?_
      refine bw_aload_n 2 dL_law_284 rfl rfl ?_
      obtain ⟨r, x1, m1, hx, hm, hR1⟩ := h_give  x m hR
      refine bw_callV [] [] (bw_WM g b m) 0 4 (t_X4_give l g a td th x  (r, x1) hx) rfl co_X4_give ini_X4 ml_L_40 im_X4_give se_X4_give ar_X4_give ⟨Nat.le_of_ble_eq_true rfl, Nat.le_of_ble_eq_true rfl⟩ ⟨by show 60 + 6 * j + 6 ≤ 600000; omega, by show 2000 + 101 * j + 101 ≤ 7302250; omega⟩ rfl rfl (List.Perm.refl _) (Nat.le_of_ble_eq_true rfl) dL_law_285 (fun r1 w1 hq => ?_)
      obtain ⟨rfl, td1, th1, rfl⟩ := hq
      refine bw_st (st1 := [.int r]) rfl ?_
      refine bw_aload_n 3 dL_law_288 rfl rfl ?_
      refine bw_callV [] [.int r] (bw_WX g a td1 th1 x1) 0 5 (t_X5_give l g b m  (r, m1) hm) rfl co_X5_give ini_X5 ml_L_43 im_X5_give se_X5_give ar_X5_give ⟨Nat.le_of_ble_eq_true rfl, Nat.le_of_ble_eq_true rfl⟩ ⟨by show 60 + 6 * j + 6 + 0 ≤ 600000; omega, by show 2000 + 101 * j + 101 + 0 ≤ 7302250; omega⟩ rfl rfl (List.Perm.refl _) (Nat.le_of_ble_eq_true rfl) dL_law_289 (fun r1 w1 hq => ?_)
      obtain ⟨rfl, rfl⟩ := hq
      refine bw_st (st1 := [.int r, .int r]) rfl ?_
      refine bw_icmp_eq 692 dL_law_292 (by decide) (fun _ => ?_) (fun c => absurd rfl c)
      exact nxt x1 m1 td1 th1 _ _ hR1 (by show 60 + 6 * j + 6 + 0 ≤ _; omega) (by show 2000 + 101 * j + 101 + 0 ≤ _; omega)
    rcases Decidable.em (v = 7) with c_8 | c_8
    · refine bw_tableIn (off := 265) 297 dL_law_32 (by rw [c_8]; decide) (by rw [c_8]; decide) (by rw [c_8]; rfl) (by decide) ?_
      refine bw_aload_n 2 dL_law_297 rfl rfl ?_
      refine bw_aload_n 1 dL_law_298 rfl rfl ?_
      refine bw_iload_n 0 dL_law_299 rfl rfl ?_
      refine bw_iconst 1 dL_law_300 (by decide) ?_
      refine bw_iadd dL_law_301 ?_
      refine bw_sld i1 dL_law_302 ?_
      refine bw_aload_n 1 dL_law_303 rfl rfl ?_
      refine bw_iload_n 0 dL_law_304 rfl rfl ?_
      refine bw_iconst 2 dL_law_305 (by decide) ?_
      refine bw_iadd dL_law_306 ?_
      refine bw_sld i2 dL_law_307 ?_
      obtain ⟨r, x1, m1, hx, hm, hR1⟩ := h_speech (xs (Int32.toNatClampNeg (nI (4 * j) + 1))) (xs (Int32.toNatClampNeg (nI (4 * j) + 2))) x m hR
      refine bw_callV [.int (xs (Int32.toNatClampNeg (nI (4 * j) + 1))), .int (xs (Int32.toNatClampNeg (nI (4 * j) + 2)))] [] (bw_WM g b m) 0 4 (t_X4_speech l g a td th x (xs (Int32.toNatClampNeg (nI (4 * j) + 1))) (xs (Int32.toNatClampNeg (nI (4 * j) + 2))) (r, x1) hx) rfl co_X4_speech ini_X4 ml_L_44 im_X4_speech se_X4_speech ar_X4_speech ⟨Nat.le_of_ble_eq_true rfl, Nat.le_of_ble_eq_true rfl⟩ ⟨by show 60 + 6 * j + 0 ≤ 600000; omega, by show 2000 + 101 * j + 0 ≤ 7302250; omega⟩ rfl rfl (List.Perm.refl _) (Nat.le_of_ble_eq_true rfl) dL_law_308 (fun r1 w1 hq => ?_)
      obtain ⟨rfl, td1, th1, rfl⟩ := hq
      refine bw_st (st1 := [.int r]) rfl ?_
      refine bw_aload_n 3 dL_law_311 rfl rfl ?_
      refine bw_aload_n 1 dL_law_312 rfl rfl ?_
      refine bw_iload_n 0 dL_law_313 rfl rfl ?_
      refine bw_iconst 1 dL_law_314 (by decide) ?_
      refine bw_iadd dL_law_315 ?_
      refine bw_sld i1 dL_law_316 ?_
      refine bw_aload_n 1 dL_law_317 rfl rfl ?_
      refine bw_iload_n 0 dL_law_318 rfl rfl ?_
      refine bw_iconst 2 dL_law_319 (by decide) ?_
      refine bw_iadd dL_law_320 ?_
      refine bw_sld i2 dL_law_321 ?_
      refine bw_callV [.int (xs (Int32.toNatClampNeg (nI (4 * j) + 1))), .int (xs (Int32.toNatClampNeg (nI (4 * j) + 2)))] [.int r] (bw_WX g a td1 th1 x1) 0 5 (t_X5_speech l g b m (xs (Int32.toNatClampNeg (nI (4 * j) + 1))) (xs (Int32.toNatClampNeg (nI (4 * j) + 2))) (r, m1) hm) rfl co_X5_speech ini_X5 ml_L_47 im_X5_speech se_X5_speech ar_X5_speech ⟨Nat.le_of_ble_eq_true rfl, Nat.le_of_ble_eq_true rfl⟩ ⟨by show 60 + 6 * j + 0 + 0 ≤ 600000; omega, by show 2000 + 101 * j + 0 + 0 ≤ 7302250; omega⟩ rfl rfl (List.Perm.refl _) (Nat.le_of_ble_eq_true rfl) dL_law_322 (fun r1 w1 hq => ?_)
      obtain ⟨rfl, rfl⟩ := hq
      refine bw_st (st1 := [.int r, .int r]) rfl ?_
      refine bw_icmp_eq 692 dL_law_325 (by decide) (fun _ => ?_) (fun c => absurd rfl c)
      exact nxt x1 m1 td1 th1 _ _ hR1 (by show 60 + 6 * j + 0 + 0 ≤ _; omega) (by show 2000 + 101 * j + 0 + 0 ≤ _; omega)
    rcases Decidable.em (v = 8) with c_9 | c_9
    · refine bw_tableIn (off := 298) 330 dL_law_32 (by rw [c_9]; decide) (by rw [c_9]; decide) (by rw [c_9]; rfl) (by decide) ?_
      refine bw_aload_n 2 dL_law_330 rfl rfl ?_
      refine bw_aload_n 1 dL_law_331 rfl rfl ?_
      refine bw_iload_n 0 dL_law_332 rfl rfl ?_
      refine bw_iconst 1 dL_law_333 (by decide) ?_
      refine bw_iadd dL_law_334 ?_
      refine bw_sld i1 dL_law_335 ?_
      refine bw_aload_n 1 dL_law_336 rfl rfl ?_
      refine bw_iload_n 0 dL_law_337 rfl rfl ?_
      refine bw_iconst 2 dL_law_338 (by decide) ?_
      refine bw_iadd dL_law_339 ?_
      refine bw_sld i2 dL_law_340 ?_
      obtain ⟨r, x1, m1, hx, hm, hR1⟩ := h_word (xs (Int32.toNatClampNeg (nI (4 * j) + 1))) (xs (Int32.toNatClampNeg (nI (4 * j) + 2))) x m hR
      refine bw_callV [.int (xs (Int32.toNatClampNeg (nI (4 * j) + 1))), .int (xs (Int32.toNatClampNeg (nI (4 * j) + 2)))] [] (bw_WM g b m) 0 4 (t_X4_word l g a td th x (xs (Int32.toNatClampNeg (nI (4 * j) + 1))) (xs (Int32.toNatClampNeg (nI (4 * j) + 2))) (r, x1) hx) rfl co_X4_word ini_X4 ml_L_48 im_X4_word se_X4_word ar_X4_word ⟨Nat.le_of_ble_eq_true rfl, Nat.le_of_ble_eq_true rfl⟩ ⟨by show 60 + 6 * j + 0 ≤ 600000; omega, by show 2000 + 101 * j + 0 ≤ 7302250; omega⟩ rfl rfl (List.Perm.refl _) (Nat.le_of_ble_eq_true rfl) dL_law_341 (fun r1 w1 hq => ?_)
      obtain ⟨rfl, td1, th1, rfl⟩ := hq
      refine bw_st (st1 := [.int r]) rfl ?_
      refine bw_aload_n 3 dL_law_344 rfl rfl ?_
      refine bw_aload_n 1 dL_law_345 rfl rfl ?_
      refine bw_iload_n 0 dL_law_346 rfl rfl ?_
      refine bw_iconst 1 dL_law_347 (by decide) ?_
      refine bw_iadd dL_law_348 ?_
      refine bw_sld i1 dL_law_349 ?_
      refine bw_aload_n 1 dL_law_350 rfl rfl ?_
      refine bw_iload_n 0 dL_law_351 rfl rfl ?_
      refine bw_iconst 2 dL_law_352 (by decide) ?_
      refine bw_iadd dL_law_353 ?_
      refine bw_sld i2 dL_law_354 ?_
      refine bw_callV [.int (xs (Int32.toNatClampNeg (nI (4 * j) + 1))), .int (xs (Int32.toNatClampNeg (nI (4 * j) + 2)))] [.int r] (bw_WX g a td1 th1 x1) 0 5 (t_X5_word l g b m (xs (Int32.toNatClampNeg (nI (4 * j) + 1))) (xs (Int32.toNatClampNeg (nI (4 * j) + 2))) (r, m1) hm) rfl co_X5_word ini_X5 ml_L_51 im_X5_word se_X5_word ar_X5_word ⟨Nat.le_of_ble_eq_true rfl, Nat.le_of_ble_eq_true rfl⟩ ⟨by show 60 + 6 * j + 0 + 0 ≤ 600000; omega, by show 2000 + 101 * j + 0 + 0 ≤ 7302250; omega⟩ rfl rfl (List.Perm.refl _) (Nat.le_of_ble_eq_true rfl) dL_law_355 (fun r1 w1 hq => ?_)
      obtain ⟨rfl, rfl⟩ := hq
      refine bw_st (st1 := [.int r, .int r]) rfl ?_
      refine bw_icmp_eq 692 dL_law_358 (by decide) (fun _ => ?_) (fun c => absurd rfl c)
      exact nxt x1 m1 td1 th1 _ _ hR1 (by show 60 + 6 * j + 0 + 0 ≤ _; omega) (by show 2000 + 101 * j + 0 + 0 ≤ _; omega)
    rcases Decidable.em (v = 9) with c_10 | c_10
    · refine bw_tableIn (off := 331) 363 dL_law_32 (by rw [c_10]; decide) (by rw [c_10]; decide) (by rw [c_10]; rfl) (by decide) ?_
      refine bw_aload_n 2 dL_law_363 rfl rfl ?_
      refine bw_aload_n 1 dL_law_364 rfl rfl ?_
      refine bw_iload_n 0 dL_law_365 rfl rfl ?_
      refine bw_iconst 1 dL_law_366 (by decide) ?_
      refine bw_iadd dL_law_367 ?_
      refine bw_sld i1 dL_law_368 ?_
      refine bw_aload_n 1 dL_law_369 rfl rfl ?_
      refine bw_iload_n 0 dL_law_370 rfl rfl ?_
      refine bw_iconst 2 dL_law_371 (by decide) ?_
      refine bw_iadd dL_law_372 ?_
      refine bw_sld i2 dL_law_373 ?_
      refine bw_aload_n 1 dL_law_374 rfl rfl ?_
      refine bw_iload_n 0 dL_law_375 rfl rfl ?_
      refine bw_iconst 3 dL_law_376 (by decide) ?_
      refine bw_iadd dL_law_377 ?_
      refine bw_sld i3 dL_law_378 ?_
      obtain ⟨r, x1, m1, hx, hm, hR1⟩ := h_sentence (xs (Int32.toNatClampNeg (nI (4 * j) + 1))) (xs (Int32.toNatClampNeg (nI (4 * j) + 2))) (xs (Int32.toNatClampNeg (nI (4 * j) + 3))) x m hR
      refine bw_callV [.int (xs (Int32.toNatClampNeg (nI (4 * j) + 1))), .int (xs (Int32.toNatClampNeg (nI (4 * j) + 2))), .int (xs (Int32.toNatClampNeg (nI (4 * j) + 3)))] [] (bw_WM g b m) 0 4 (t_X4_sentence l g a td th x (xs (Int32.toNatClampNeg (nI (4 * j) + 1))) (xs (Int32.toNatClampNeg (nI (4 * j) + 2))) (xs (Int32.toNatClampNeg (nI (4 * j) + 3))) (r, x1) hx) rfl co_X4_sentence ini_X4 ml_L_52 im_X4_sentence se_X4_sentence ar_X4_sentence ⟨Nat.le_of_ble_eq_true rfl, Nat.le_of_ble_eq_true rfl⟩ ⟨by show 60 + 6 * j + 0 ≤ 600000; omega, by show 2000 + 101 * j + 0 ≤ 7302250; omega⟩ rfl rfl (List.Perm.refl _) (Nat.le_of_ble_eq_true rfl) dL_law_379 (fun r1 w1 hq => ?_)
      obtain ⟨rfl, td1, th1, rfl⟩ := hq
      refine bw_st (st1 := [.int r]) rfl ?_
      refine bw_aload_n 3 dL_law_382 rfl rfl ?_
      refine bw_aload_n 1 dL_law_383 rfl rfl ?_
      refine bw_iload_n 0 dL_law_384 rfl rfl ?_
      refine bw_iconst 1 dL_law_385 (by decide) ?_
      refine bw_iadd dL_law_386 ?_
      refine bw_sld i1 dL_law_387 ?_
      refine bw_aload_n 1 dL_law_388 rfl rfl ?_
      refine bw_iload_n 0 dL_law_389 rfl rfl ?_
      refine bw_iconst 2 dL_law_390 (by decide) ?_
      refine bw_iadd dL_law_391 ?_
      refine bw_sld i2 dL_law_392 ?_
      refine bw_aload_n 1 dL_law_393 rfl rfl ?_
      refine bw_iload_n 0 dL_law_394 rfl rfl ?_
      refine bw_iconst 3 dL_law_395 (by decide) ?_
      refine bw_iadd dL_law_396 ?_
      refine bw_sld i3 dL_law_397 ?_
      refine bw_callV [.int (xs (Int32.toNatClampNeg (nI (4 * j) + 1))), .int (xs (Int32.toNatClampNeg (nI (4 * j) + 2))), .int (xs (Int32.toNatClampNeg (nI (4 * j) + 3)))] [.int r] (bw_WX g a td1 th1 x1) 0 5 (t_X5_sentence l g b m (xs (Int32.toNatClampNeg (nI (4 * j) + 1))) (xs (Int32.toNatClampNeg (nI (4 * j) + 2))) (xs (Int32.toNatClampNeg (nI (4 * j) + 3))) (r, m1) hm) rfl co_X5_sentence ini_X5 ml_L_55 im_X5_sentence se_X5_sentence ar_X5_sentence ⟨Nat.le_of_ble_eq_true rfl, Nat.le_of_ble_eq_true rfl⟩ ⟨by show 60 + 6 * j + 0 + 0 ≤ 600000; omega, by show 2000 + 101 * j + 0 + 0 ≤ 7302250; omega⟩ rfl rfl (List.Perm.refl _) (Nat.le_of_ble_eq_true rfl) dL_law_398 (fun r1 w1 hq => ?_)
      obtain ⟨rfl, rfl⟩ := hq
      refine bw_st (st1 := [.int r, .int r]) rfl ?_
      refine bw_icmp_eq 692 dL_law_401 (by decide) (fun _ => ?_) (fun c => absurd rfl c)
      exact nxt x1 m1 td1 th1 _ _ hR1 (by show 60 + 6 * j + 0 + 0 ≤ _; omega) (by show 2000 + 101 * j + 0 + 0 ≤ _; omega)
    rcases Decidable.em (v = 10) with c_11 | c_11
    · refine bw_tableIn (off := 374) 406 dL_law_32 (by rw [c_11]; decide) (by rw [c_11]; decide) (by rw [c_11]; rfl) (by decide) ?_
      refine bw_aload_n 2 dL_law_406 rfl rfl ?_
      refine bw_aload_n 1 dL_law_407 rfl rfl ?_
      refine bw_iload_n 0 dL_law_408 rfl rfl ?_
      refine bw_iconst 1 dL_law_409 (by decide) ?_
      refine bw_iadd dL_law_410 ?_
      refine bw_sld i1 dL_law_411 ?_
      refine bw_aload_n 1 dL_law_412 rfl rfl ?_
      refine bw_iload_n 0 dL_law_413 rfl rfl ?_
      refine bw_iconst 2 dL_law_414 (by decide) ?_
      refine bw_iadd dL_law_415 ?_
      refine bw_sld i2 dL_law_416 ?_
      obtain ⟨r, x1, m1, hx, hm, hR1⟩ := h_favour (xs (Int32.toNatClampNeg (nI (4 * j) + 1))) (xs (Int32.toNatClampNeg (nI (4 * j) + 2))) x m hR
      refine bw_callV [.int (xs (Int32.toNatClampNeg (nI (4 * j) + 1))), .int (xs (Int32.toNatClampNeg (nI (4 * j) + 2)))] [] (bw_WM g b m) 0 4 (t_X4_favour l g a td th x (xs (Int32.toNatClampNeg (nI (4 * j) + 1))) (xs (Int32.toNatClampNeg (nI (4 * j) + 2))) (r, x1) hx) rfl co_X4_favour ini_X4 ml_L_56 im_X4_favour se_X4_favour ar_X4_favour ⟨Nat.le_of_ble_eq_true rfl, Nat.le_of_ble_eq_true rfl⟩ ⟨by show 60 + 6 * j + 0 ≤ 600000; omega, by show 2000 + 101 * j + 0 ≤ 7302250; omega⟩ rfl rfl (List.Perm.refl _) (Nat.le_of_ble_eq_true rfl) dL_law_417 (fun r1 w1 hq => ?_)
      obtain ⟨rfl, td1, th1, rfl⟩ := hq
      refine bw_st (st1 := [.int r]) rfl ?_
      refine bw_aload_n 3 dL_law_420 rfl rfl ?_
      refine bw_aload_n 1 dL_law_421 rfl rfl ?_
      refine bw_iload_n 0 dL_law_422 rfl rfl ?_
      refine bw_iconst 1 dL_law_423 (by decide) ?_
      refine bw_iadd dL_law_424 ?_
      refine bw_sld i1 dL_law_425 ?_
      refine bw_aload_n 1 dL_law_426 rfl rfl ?_
      refine bw_iload_n 0 dL_law_427 rfl rfl ?_
      refine bw_iconst 2 dL_law_428 (by decide) ?_
      refine bw_iadd dL_law_429 ?_
      refine bw_sld i2 dL_law_430 ?_
      refine bw_callV [.int (xs (Int32.toNatClampNeg (nI (4 * j) + 1))), .int (xs (Int32.toNatClampNeg (nI (4 * j) + 2)))] [.int r] (bw_WX g a td1 th1 x1) 0 5 (t_X5_favour l g b m (xs (Int32.toNatClampNeg (nI (4 * j) + 1))) (xs (Int32.toNatClampNeg (nI (4 * j) + 2))) (r, m1) hm) rfl co_X5_favour ini_X5 ml_L_59 im_X5_favour se_X5_favour ar_X5_favour ⟨Nat.le_of_ble_eq_true rfl, Nat.le_of_ble_eq_true rfl⟩ ⟨by show 60 + 6 * j + 0 + 0 ≤ 600000; omega, by show 2000 + 101 * j + 0 + 0 ≤ 7302250; omega⟩ rfl rfl (List.Perm.refl _) (Nat.le_of_ble_eq_true rfl) dL_law_431 (fun r1 w1 hq => ?_)
      obtain ⟨rfl, rfl⟩ := hq
      refine bw_st (st1 := [.int r, .int r]) rfl ?_
      refine bw_icmp_eq 692 dL_law_434 (by decide) (fun _ => ?_) (fun c => absurd rfl c)
      exact nxt x1 m1 td1 th1 _ _ hR1 (by show 60 + 6 * j + 0 + 0 ≤ _; omega) (by show 2000 + 101 * j + 0 + 0 ≤ _; omega)
    rcases Decidable.em (v = 11) with c_12 | c_12
    · refine bw_tableIn (off := 407) 439 dL_law_32 (by rw [c_12]; decide) (by rw [c_12]; decide) (by rw [c_12]; rfl) (by decide) ?_
      refine bw_aload_n 2 dL_law_439 rfl rfl ?_
      refine bw_aload_n 1 dL_law_440 rfl rfl ?_
      refine bw_iload_n 0 dL_law_441 rfl rfl ?_
      refine bw_iconst 1 dL_law_442 (by decide) ?_
      refine bw_iadd dL_law_443 ?_
      refine bw_sld i1 dL_law_444 ?_
      obtain ⟨r, x1, m1, hx, hm, hR1⟩ := h_count (xs (Int32.toNatClampNeg (nI (4 * j) + 1))) x m hR
      refine bw_callV [.int (xs (Int32.toNatClampNeg (nI (4 * j) + 1)))] [] (bw_WM g b m) 0 4 (t_X4_count l g a td th x (xs (Int32.toNatClampNeg (nI (4 * j) + 1))) (r, x1) hx) rfl co_X4_count ini_X4 ml_L_60 im_X4_count se_X4_count ar_X4_count ⟨Nat.le_of_ble_eq_true rfl, Nat.le_of_ble_eq_true rfl⟩ ⟨by show 60 + 6 * j + 0 ≤ 600000; omega, by show 2000 + 101 * j + 0 ≤ 7302250; omega⟩ rfl rfl (List.Perm.refl _) (Nat.le_of_ble_eq_true rfl) dL_law_445 (fun r1 w1 hq => ?_)
      obtain ⟨rfl, td1, th1, rfl⟩ := hq
      refine bw_st (st1 := [.int r]) rfl ?_
      refine bw_aload_n 3 dL_law_448 rfl rfl ?_
      refine bw_aload_n 1 dL_law_449 rfl rfl ?_
      refine bw_iload_n 0 dL_law_450 rfl rfl ?_
      refine bw_iconst 1 dL_law_451 (by decide) ?_
      refine bw_iadd dL_law_452 ?_
      refine bw_sld i1 dL_law_453 ?_
      refine bw_callV [.int (xs (Int32.toNatClampNeg (nI (4 * j) + 1)))] [.int r] (bw_WX g a td1 th1 x1) 0 5 (t_X5_count l g b m (xs (Int32.toNatClampNeg (nI (4 * j) + 1))) (r, m1) hm) rfl co_X5_count ini_X5 ml_L_64 im_X5_count se_X5_count ar_X5_count ⟨Nat.le_of_ble_eq_true rfl, Nat.le_of_ble_eq_true rfl⟩ ⟨by show 60 + 6 * j + 0 + 0 ≤ 600000; omega, by show 2000 + 101 * j + 0 + 0 ≤ 7302250; omega⟩ rfl rfl (List.Perm.refl _) (Nat.le_of_ble_eq_true rfl) dL_law_454 (fun r1 w1 hq => ?_)
      obtain ⟨rfl, rfl⟩ := hq
      refine bw_st (st1 := [.int r, .int r]) rfl ?_
      refine bw_icmp_eq 692 dL_law_457 (by decide) (fun _ => ?_) (fun c => absurd rfl c)
      exact nxt x1 m1 td1 th1 _ _ hR1 (by show 60 + 6 * j + 0 + 0 ≤ _; omega) (by show 2000 + 101 * j + 0 + 0 ≤ _; omega)
    rcases Decidable.em (v = 12) with c_13 | c_13
    · refine bw_tableIn (off := 430) 462 dL_law_32 (by rw [c_13]; decide) (by rw [c_13]; decide) (by rw [c_13]; rfl) (by decide) ?_
      refine bw_aload_n 2 dL_law_462 rfl rfl ?_
      refine bw_aload_n 1 dL_law_463 rfl rfl ?_
      refine bw_iload_n 0 dL_law_464 rfl rfl ?_
      refine bw_iconst 1 dL_law_465 (by decide) ?_
      refine bw_iadd dL_law_466 ?_
      refine bw_sld i1 dL_law_467 ?_
      refine bw_aload_n 1 dL_law_468 rfl rfl ?_
      refine bw_iload_n 0 dL_law_469 rfl rfl ?_
      refine bw_iconst 2 dL_law_470 (by decide) ?_
      refine bw_iadd dL_law_471 ?_
      refine bw_sld i2 dL_law_472 ?_
      obtain ⟨r, x1, m1, hx, hm, hR1⟩ := h_courtier (xs (Int32.toNatClampNeg (nI (4 * j) + 1))) (xs (Int32.toNatClampNeg (nI (4 * j) + 2))) x m hR
      refine bw_callV [.int (xs (Int32.toNatClampNeg (nI (4 * j) + 1))), .int (xs (Int32.toNatClampNeg (nI (4 * j) + 2)))] [] (bw_WM g b m) 0 4 (t_X4_courtier l g a td th x (xs (Int32.toNatClampNeg (nI (4 * j) + 1))) (xs (Int32.toNatClampNeg (nI (4 * j) + 2))) (r, x1) hx) rfl co_X4_courtier ini_X4 ml_L_65 im_X4_courtier se_X4_courtier ar_X4_courtier ⟨Nat.le_of_ble_eq_true rfl, Nat.le_of_ble_eq_true rfl⟩ ⟨by show 60 + 6 * j + 0 ≤ 600000; omega, by show 2000 + 101 * j + 0 ≤ 7302250; omega⟩ rfl rfl (List.Perm.refl _) (Nat.le_of_ble_eq_true rfl) dL_law_473 (fun r1 w1 hq => ?_)
      obtain ⟨rfl, td1, th1, rfl⟩ := hq
      refine bw_st (st1 := [.int r]) rfl ?_
      refine bw_aload_n 3 dL_law_476 rfl rfl ?_
      refine bw_aload_n 1 dL_law_477 rfl rfl ?_
      refine bw_iload_n 0 dL_law_478 rfl rfl ?_
      refine bw_iconst 1 dL_law_479 (by decide) ?_
      refine bw_iadd dL_law_480 ?_
      refine bw_sld i1 dL_law_481 ?_
      refine bw_aload_n 1 dL_law_482 rfl rfl ?_
      refine bw_iload_n 0 dL_law_483 rfl rfl ?_
      refine bw_iconst 2 dL_law_484 (by decide) ?_
      refine bw_iadd dL_law_485 ?_
      refine bw_sld i2 dL_law_486 ?_
      refine bw_callV [.int (xs (Int32.toNatClampNeg (nI (4 * j) + 1))), .int (xs (Int32.toNatClampNeg (nI (4 * j) + 2)))] [.int r] (bw_WX g a td1 th1 x1) 0 5 (t_X5_courtier l g b m (xs (Int32.toNatClampNeg (nI (4 * j) + 1))) (xs (Int32.toNatClampNeg (nI (4 * j) + 2))) (r, m1) hm) rfl co_X5_courtier ini_X5 ml_L_68 im_X5_courtier se_X5_courtier ar_X5_courtier ⟨Nat.le_of_ble_eq_true rfl, Nat.le_of_ble_eq_true rfl⟩ ⟨by show 60 + 6 * j + 0 + 0 ≤ 600000; omega, by show 2000 + 101 * j + 0 + 0 ≤ 7302250; omega⟩ rfl rfl (List.Perm.refl _) (Nat.le_of_ble_eq_true rfl) dL_law_487 (fun r1 w1 hq => ?_)
      obtain ⟨rfl, rfl⟩ := hq
      refine bw_st (st1 := [.int r, .int r]) rfl ?_
      refine bw_icmp_eq 692 dL_law_490 (by decide) (fun _ => ?_) (fun c => absurd rfl c)
      exact nxt x1 m1 td1 th1 _ _ hR1 (by show 60 + 6 * j + 0 + 0 ≤ _; omega) (by show 2000 + 101 * j + 0 + 0 ≤ _; omega)
    rcases Decidable.em (v = 13) with c_14 | c_14
    · refine bw_tableIn (off := 463) 495 dL_law_32 (by rw [c_14]; decide) (by rw [c_14]; decide) (by rw [c_14]; rfl) (by decide) ?_
      refine bw_aload_n 2 dL_law_495 rfl rfl ?_
      refine bw_aload_n 1 dL_law_496 rfl rfl ?_
      refine bw_iload_n 0 dL_law_497 rfl rfl ?_
      refine bw_iconst 1 dL_law_498 (by decide) ?_
      refine bw_iadd dL_law_499 ?_
      refine bw_sld i1 dL_law_500 ?_
      refine bw_aload_n 1 dL_law_501 rfl rfl ?_
      refine bw_iload_n 0 dL_law_502 rfl rfl ?_
      refine bw_iconst 2 dL_law_503 (by decide) ?_
      refine bw_iadd dL_law_504 ?_
      refine bw_sld i2 dL_law_505 ?_
      obtain ⟨r, x1, m1, hx, hm, hR1⟩ := h_ifGiven (xs (Int32.toNatClampNeg (nI (4 * j) + 1))) (xs (Int32.toNatClampNeg (nI (4 * j) + 2))) x m hR
      refine bw_callV [.int (xs (Int32.toNatClampNeg (nI (4 * j) + 1))), .int (xs (Int32.toNatClampNeg (nI (4 * j) + 2)))] [] (bw_WM g b m) 0 4 (t_X4_ifGiven l g a td th x (xs (Int32.toNatClampNeg (nI (4 * j) + 1))) (xs (Int32.toNatClampNeg (nI (4 * j) + 2))) (r, x1) hx) rfl co_X4_ifGiven ini_X4 ml_L_69 im_X4_ifGiven se_X4_ifGiven ar_X4_ifGiven ⟨Nat.le_of_ble_eq_true rfl, Nat.le_of_ble_eq_true rfl⟩ ⟨by show 60 + 6 * j + 0 ≤ 600000; omega, by show 2000 + 101 * j + 0 ≤ 7302250; omega⟩ rfl rfl (List.Perm.refl _) (Nat.le_of_ble_eq_true rfl) dL_law_506 (fun r1 w1 hq => ?_)
      obtain ⟨rfl, td1, th1, rfl⟩ := hq
      refine bw_st (st1 := [.int r]) rfl ?_
      refine bw_aload_n 3 dL_law_509 rfl rfl ?_
      refine bw_aload_n 1 dL_law_510 rfl rfl ?_
      refine bw_iload_n 0 dL_law_511 rfl rfl ?_
      refine bw_iconst 1 dL_law_512 (by decide) ?_
      refine bw_iadd dL_law_513 ?_
      refine bw_sld i1 dL_law_514 ?_
      refine bw_aload_n 1 dL_law_515 rfl rfl ?_
      refine bw_iload_n 0 dL_law_516 rfl rfl ?_
      refine bw_iconst 2 dL_law_517 (by decide) ?_
      refine bw_iadd dL_law_518 ?_
      refine bw_sld i2 dL_law_519 ?_
      refine bw_callV [.int (xs (Int32.toNatClampNeg (nI (4 * j) + 1))), .int (xs (Int32.toNatClampNeg (nI (4 * j) + 2)))] [.int r] (bw_WX g a td1 th1 x1) 0 5 (t_X5_ifGiven l g b m (xs (Int32.toNatClampNeg (nI (4 * j) + 1))) (xs (Int32.toNatClampNeg (nI (4 * j) + 2))) (r, m1) hm) rfl co_X5_ifGiven ini_X5 ml_L_72 im_X5_ifGiven se_X5_ifGiven ar_X5_ifGiven ⟨Nat.le_of_ble_eq_true rfl, Nat.le_of_ble_eq_true rfl⟩ ⟨by show 60 + 6 * j + 0 + 0 ≤ 600000; omega, by show 2000 + 101 * j + 0 + 0 ≤ 7302250; omega⟩ rfl rfl (List.Perm.refl _) (Nat.le_of_ble_eq_true rfl) dL_law_520 (fun r1 w1 hq => ?_)
      obtain ⟨rfl, rfl⟩ := hq
      refine bw_st (st1 := [.int r, .int r]) rfl ?_
      refine bw_icmp_eq 692 dL_law_523 (by decide) (fun _ => ?_) (fun c => absurd rfl c)
      exact nxt x1 m1 td1 th1 _ _ hR1 (by show 60 + 6 * j + 0 + 0 ≤ _; omega) (by show 2000 + 101 * j + 0 + 0 ≤ _; omega)
    rcases Decidable.em (v = 14) with c_15 | c_15
    · refine bw_tableIn (off := 496) 528 dL_law_32 (by rw [c_15]; decide) (by rw [c_15]; decide) (by rw [c_15]; rfl) (by decide) ?_
      refine bw_aload_n 2 dL_law_528 rfl rfl ?_
      obtain ⟨r, x1, m1, hx, hm, hR1⟩ := h_bestBow  x m hR
      refine bw_callV [] [] (bw_WM g b m) 0 4 (t_X4_bestBow l g a td th x  (r, x1) hx) rfl co_X4_bestBow ini_X4 ml_L_73 im_X4_bestBow se_X4_bestBow ar_X4_bestBow ⟨Nat.le_of_ble_eq_true rfl, Nat.le_of_ble_eq_true rfl⟩ ⟨by show 60 + 6 * j + 0 ≤ 600000; omega, by show 2000 + 101 * j + 0 ≤ 7302250; omega⟩ rfl rfl (List.Perm.refl _) (Nat.le_of_ble_eq_true rfl) dL_law_529 (fun r1 w1 hq => ?_)
      obtain ⟨rfl, td1, th1, rfl⟩ := hq
      refine bw_st (st1 := [.int r]) rfl ?_
      refine bw_aload_n 3 dL_law_532 rfl rfl ?_
      refine bw_callV [] [.int r] (bw_WX g a td1 th1 x1) 0 5 (t_X5_bestBow l g b m  (r, m1) hm) rfl co_X5_bestBow ini_X5 ml_L_76 im_X5_bestBow se_X5_bestBow ar_X5_bestBow ⟨Nat.le_of_ble_eq_true rfl, Nat.le_of_ble_eq_true rfl⟩ ⟨by show 60 + 6 * j + 0 + 0 ≤ 600000; omega, by show 2000 + 101 * j + 0 + 0 ≤ 7302250; omega⟩ rfl rfl (List.Perm.refl _) (Nat.le_of_ble_eq_true rfl) dL_law_533 (fun r1 w1 hq => ?_)
      obtain ⟨rfl, rfl⟩ := hq
      refine bw_st (st1 := [.int r, .int r]) rfl ?_
      refine bw_icmp_eq 692 dL_law_536 (by decide) (fun _ => ?_) (fun c => absurd rfl c)
      exact nxt x1 m1 td1 th1 _ _ hR1 (by show 60 + 6 * j + 0 + 0 ≤ _; omega) (by show 2000 + 101 * j + 0 + 0 ≤ _; omega)
    rcases Decidable.em (v = 15) with c_16 | c_16
    · refine bw_tableIn (off := 509) 541 dL_law_32 (by rw [c_16]; decide) (by rw [c_16]; decide) (by rw [c_16]; rfl) (by decide) ?_
      refine bw_aload_n 2 dL_law_541 rfl rfl ?_
      obtain ⟨r, x1, m1, hx, hm, hR1⟩ := h_darling  x m hR
      refine bw_callV [] [] (bw_WM g b m) 0 4 (t_X4_darling l g a td th x  (r, x1) hx) rfl co_X4_darling ini_X4 ml_L_77 im_X4_darling se_X4_darling ar_X4_darling ⟨Nat.le_of_ble_eq_true rfl, Nat.le_of_ble_eq_true rfl⟩ ⟨by show 60 + 6 * j + 0 ≤ 600000; omega, by show 2000 + 101 * j + 0 ≤ 7302250; omega⟩ rfl rfl (List.Perm.refl _) (Nat.le_of_ble_eq_true rfl) dL_law_542 (fun r1 w1 hq => ?_)
      obtain ⟨rfl, td1, th1, rfl⟩ := hq
      refine bw_st (st1 := [.int r]) rfl ?_
      refine bw_aload_n 3 dL_law_545 rfl rfl ?_
      refine bw_callV [] [.int r] (bw_WX g a td1 th1 x1) 0 5 (t_X5_darling l g b m  (r, m1) hm) rfl co_X5_darling ini_X5 ml_L_80 im_X5_darling se_X5_darling ar_X5_darling ⟨Nat.le_of_ble_eq_true rfl, Nat.le_of_ble_eq_true rfl⟩ ⟨by show 60 + 6 * j + 0 + 0 ≤ 600000; omega, by show 2000 + 101 * j + 0 + 0 ≤ 7302250; omega⟩ rfl rfl (List.Perm.refl _) (Nat.le_of_ble_eq_true rfl) dL_law_546 (fun r1 w1 hq => ?_)
      obtain ⟨rfl, rfl⟩ := hq
      refine bw_st (st1 := [.int r, .int r]) rfl ?_
      refine bw_icmp_eq 692 dL_law_549 (by decide) (fun _ => ?_) (fun c => absurd rfl c)
      exact nxt x1 m1 td1 th1 _ _ hR1 (by show 60 + 6 * j + 0 + 0 ≤ _; omega) (by show 2000 + 101 * j + 0 + 0 ≤ _; omega)
    rcases Decidable.em (v = 16) with c_17 | c_17
    · refine bw_tableIn (off := 522) 554 dL_law_32 (by rw [c_17]; decide) (by rw [c_17]; decide) (by rw [c_17]; rfl) (by decide) ?_
      refine bw_aload_n 2 dL_law_554 rfl rfl ?_
      refine bw_aload_n 1 dL_law_555 rfl rfl ?_
      refine bw_iload_n 0 dL_law_556 rfl rfl ?_
      refine bw_iconst 1 dL_law_557 (by decide) ?_
      refine bw_iadd dL_law_558 ?_
      refine bw_sld i1 dL_law_559 ?_
      refine bw_i2l dL_law_560 ?_
      refine bw_bipush 32 dL_law_561 (by decide) ?_
      refine bw_lshl dL_law_563 ?_
      refine bw_aload_n 1 dL_law_564 rfl rfl ?_
      refine bw_iload_n 0 dL_law_565 rfl rfl ?_
      refine bw_iconst 2 dL_law_566 (by decide) ?_
      refine bw_iadd dL_law_567 ?_
      refine bw_sld i2 dL_law_568 ?_
      refine bw_i2l dL_law_569 ?_
      refine bw_ldc2 ct_L_81 dL_law_570 ?_
      refine bw_land dL_law_573 ?_
      refine bw_lor dL_law_574 ?_
      obtain ⟨r, x1, m1, hx, hm, hR1⟩ := h_put (((Int32.toInt64 (xs (Int32.toNatClampNeg (nI (4 * j) + 1)))) <<< ((32 : Int32).toInt64 &&& 63)) ||| ((Int32.toInt64 (xs (Int32.toNatClampNeg (nI (4 * j) + 2)))) &&& 4294967295)) x m hR
      refine bw_callV [.long (((Int32.toInt64 (xs (Int32.toNatClampNeg (nI (4 * j) + 1)))) <<< ((32 : Int32).toInt64 &&& 63)) ||| ((Int32.toInt64 (xs (Int32.toNatClampNeg (nI (4 * j) + 2)))) &&& 4294967295))] [] (bw_WM g b m) 0 4 (t_X4_put l g a td th x (((Int32.toInt64 (xs (Int32.toNatClampNeg (nI (4 * j) + 1)))) <<< ((32 : Int32).toInt64 &&& 63)) ||| ((Int32.toInt64 (xs (Int32.toNatClampNeg (nI (4 * j) + 2)))) &&& 4294967295)) (r, x1) hx) rfl co_X4_put ini_X4 ml_L_83 im_X4_put se_X4_put ar_X4_put ⟨Nat.le_of_ble_eq_true rfl, Nat.le_of_ble_eq_true rfl⟩ ⟨by show 60 + 6 * j + 0 ≤ 600000; omega, by show 2000 + 101 * j + 0 ≤ 7302250; omega⟩ rfl rfl (List.Perm.refl _) (Nat.le_of_ble_eq_true rfl) dL_law_575 (fun r1 w1 hq => ?_)
      obtain ⟨rfl, td1, th1, rfl⟩ := hq
      refine bw_st (st1 := [.int r]) rfl ?_
      refine bw_aload_n 3 dL_law_578 rfl rfl ?_
      refine bw_aload_n 1 dL_law_579 rfl rfl ?_
      refine bw_iload_n 0 dL_law_580 rfl rfl ?_
      refine bw_iconst 1 dL_law_581 (by decide) ?_
      refine bw_iadd dL_law_582 ?_
      refine bw_sld i1 dL_law_583 ?_
      refine bw_i2l dL_law_584 ?_
      refine bw_bipush 32 dL_law_585 (by decide) ?_
      refine bw_lshl dL_law_587 ?_
      refine bw_aload_n 1 dL_law_588 rfl rfl ?_
      refine bw_iload_n 0 dL_law_589 rfl rfl ?_
      refine bw_iconst 2 dL_law_590 (by decide) ?_
      refine bw_iadd dL_law_591 ?_
      refine bw_sld i2 dL_law_592 ?_
      refine bw_i2l dL_law_593 ?_
      refine bw_ldc2 ct_L_81 dL_law_594 ?_
      refine bw_land dL_law_597 ?_
      refine bw_lor dL_law_598 ?_
      refine bw_callV [.long (((Int32.toInt64 (xs (Int32.toNatClampNeg (nI (4 * j) + 1)))) <<< ((32 : Int32).toInt64 &&& 63)) ||| ((Int32.toInt64 (xs (Int32.toNatClampNeg (nI (4 * j) + 2)))) &&& 4294967295))] [.int r] (bw_WX g a td1 th1 x1) 0 5 (t_X5_put l g b m (((Int32.toInt64 (xs (Int32.toNatClampNeg (nI (4 * j) + 1)))) <<< ((32 : Int32).toInt64 &&& 63)) ||| ((Int32.toInt64 (xs (Int32.toNatClampNeg (nI (4 * j) + 2)))) &&& 4294967295)) (r, m1) hm) rfl co_X5_put ini_X5 ml_L_87 im_X5_put se_X5_put ar_X5_put ⟨Nat.le_of_ble_eq_true rfl, Nat.le_of_ble_eq_true rfl⟩ ⟨by show 60 + 6 * j + 0 + 0 ≤ 600000; omega, by show 2000 + 101 * j + 0 + 0 ≤ 7302250; omega⟩ rfl rfl (List.Perm.refl _) (Nat.le_of_ble_eq_true rfl) dL_law_599 (fun r1 w1 hq => ?_)
      obtain ⟨rfl, rfl⟩ := hq
      refine bw_st (st1 := [.int r, .int r]) rfl ?_
      refine bw_icmp_eq 692 dL_law_602 (by decide) (fun _ => ?_) (fun c => absurd rfl c)
      exact nxt x1 m1 td1 th1 _ _ hR1 (by show 60 + 6 * j + 0 + 0 ≤ _; omega) (by show 2000 + 101 * j + 0 + 0 ≤ _; omega)
    rcases Decidable.em (v = 17) with c_18 | c_18
    · refine bw_tableIn (off := 575) 607 dL_law_32 (by rw [c_18]; decide) (by rw [c_18]; decide) (by rw [c_18]; rfl) (by decide) ?_
      refine bw_aload_n 2 dL_law_607 rfl rfl ?_
      obtain ⟨r, x1, m1, hx, hm, hR1⟩ := h_wipe  x m hR
      refine bw_callV [] [] (bw_WM g b m) 0 4 (t_X4_wipe l g a td th x  (r, x1) hx) rfl co_X4_wipe ini_X4 ml_L_88 im_X4_wipe se_X4_wipe ar_X4_wipe ⟨Nat.le_of_ble_eq_true rfl, Nat.le_of_ble_eq_true rfl⟩ ⟨by show 60 + 6 * j + 0 ≤ 600000; omega, by show 2000 + 101 * j + 0 ≤ 7302250; omega⟩ rfl rfl (List.Perm.refl _) (Nat.le_of_ble_eq_true rfl) dL_law_608 (fun r1 w1 hq => ?_)
      obtain ⟨rfl, td1, th1, rfl⟩ := hq
      refine bw_st (st1 := [.int r]) rfl ?_
      refine bw_aload_n 3 dL_law_611 rfl rfl ?_
      refine bw_callV [] [.int r] (bw_WX g a td1 th1 x1) 0 5 (t_X5_wipe l g b m  (r, m1) hm) rfl co_X5_wipe ini_X5 ml_L_91 im_X5_wipe se_X5_wipe ar_X5_wipe ⟨Nat.le_of_ble_eq_true rfl, Nat.le_of_ble_eq_true rfl⟩ ⟨by show 60 + 6 * j + 0 + 0 ≤ 600000; omega, by show 2000 + 101 * j + 0 + 0 ≤ 7302250; omega⟩ rfl rfl (List.Perm.refl _) (Nat.le_of_ble_eq_true rfl) dL_law_612 (fun r1 w1 hq => ?_)
      obtain ⟨rfl, rfl⟩ := hq
      refine bw_st (st1 := [.int r, .int r]) rfl ?_
      refine bw_icmp_eq 692 dL_law_615 (by decide) (fun _ => ?_) (fun c => absurd rfl c)
      exact nxt x1 m1 td1 th1 _ _ hR1 (by show 60 + 6 * j + 0 + 0 ≤ _; omega) (by show 2000 + 101 * j + 0 + 0 ≤ _; omega)
    rcases Decidable.em (v = 18) with c_19 | c_19
    · refine bw_tableIn (off := 588) 620 dL_law_32 (by rw [c_19]; decide) (by rw [c_19]; decide) (by rw [c_19]; rfl) (by decide) ?_
      refine bw_aload_n 2 dL_law_620 rfl rfl ?_
      obtain ⟨r, x1, m1, hx, hm, hR1⟩ := h_fault  x m hR
      refine bw_callV [] [] (bw_WM g b m) 0 4 (t_X4_fault l g a td th x  (r, x1) hx) rfl co_X4_fault ini_X4 ml_L_92 im_X4_fault se_X4_fault ar_X4_fault ⟨Nat.le_of_ble_eq_true rfl, Nat.le_of_ble_eq_true rfl⟩ ⟨by show 60 + 6 * j + 0 ≤ 600000; omega, by show 2000 + 101 * j + 0 ≤ 7302250; omega⟩ rfl rfl (List.Perm.refl _) (Nat.le_of_ble_eq_true rfl) dL_law_621 (fun r1 w1 hq => ?_)
      obtain ⟨rfl, td1, th1, rfl⟩ := hq
      refine bw_st (st1 := [.int r]) rfl ?_
      refine bw_aload_n 3 dL_law_624 rfl rfl ?_
      refine bw_callV [] [.int r] (bw_WX g a td1 th1 x1) 0 5 (t_X5_fault l g b m  (r, m1) hm) rfl co_X5_fault ini_X5 ml_L_95 im_X5_fault se_X5_fault ar_X5_fault ⟨Nat.le_of_ble_eq_true rfl, Nat.le_of_ble_eq_true rfl⟩ ⟨by show 60 + 6 * j + 0 + 0 ≤ 600000; omega, by show 2000 + 101 * j + 0 + 0 ≤ 7302250; omega⟩ rfl rfl (List.Perm.refl _) (Nat.le_of_ble_eq_true rfl) dL_law_625 (fun r1 w1 hq => ?_)
      obtain ⟨rfl, rfl⟩ := hq
      refine bw_st (st1 := [.int r, .int r]) rfl ?_
      refine bw_icmp_eq 692 dL_law_628 (by decide) (fun _ => ?_) (fun c => absurd rfl c)
      exact nxt x1 m1 td1 th1 _ _ hR1 (by show 60 + 6 * j + 0 + 0 ≤ _; omega) (by show 2000 + 101 * j + 0 + 0 ≤ _; omega)
    rcases Decidable.em (v = 19) with c_20 | c_20
    · refine bw_tableIn (off := 601) 633 dL_law_32 (by rw [c_20]; decide) (by rw [c_20]; decide) (by rw [c_20]; rfl) (by decide) ?_
      refine bw_aload_n 2 dL_law_633 rfl rfl ?_
      obtain ⟨r, x1, m1, hx, hm, hR1⟩ := h_undo  x m hR
      refine bw_callV [] [] (bw_WM g b m) 0 4 (t_X4_undo l g a td th x  (r, x1) hx) rfl co_X4_undo ini_X4 ml_L_96 im_X4_undo se_X4_undo ar_X4_undo ⟨Nat.le_of_ble_eq_true rfl, Nat.le_of_ble_eq_true rfl⟩ ⟨by show 60 + 6 * j + 6 ≤ 600000; omega, by show 2000 + 101 * j + 101 ≤ 7302250; omega⟩ rfl rfl (List.Perm.refl _) (Nat.le_of_ble_eq_true rfl) dL_law_634 (fun r1 w1 hq => ?_)
      obtain ⟨rfl, td1, th1, rfl⟩ := hq
      refine bw_st (st1 := [.int r]) rfl ?_
      refine bw_aload_n 3 dL_law_637 rfl rfl ?_
      refine bw_callV [] [.int r] (bw_WX g a td1 th1 x1) 0 5 (t_X5_undo l g b m  (r, m1) hm) rfl co_X5_undo ini_X5 ml_L_99 im_X5_undo se_X5_undo ar_X5_undo ⟨Nat.le_of_ble_eq_true rfl, Nat.le_of_ble_eq_true rfl⟩ ⟨by show 60 + 6 * j + 6 + 0 ≤ 600000; omega, by show 2000 + 101 * j + 101 + 0 ≤ 7302250; omega⟩ rfl rfl (List.Perm.refl _) (Nat.le_of_ble_eq_true rfl) dL_law_638 (fun r1 w1 hq => ?_)
      obtain ⟨rfl, rfl⟩ := hq
      refine bw_st (st1 := [.int r, .int r]) rfl ?_
      refine bw_icmp_eq 692 dL_law_641 (by decide) (fun _ => ?_) (fun c => absurd rfl c)
      exact nxt x1 m1 td1 th1 _ _ hR1 (by show 60 + 6 * j + 6 + 0 ≤ _; omega) (by show 2000 + 101 * j + 101 + 0 ≤ _; omega)
    rcases Decidable.em (v = 20) with c_21 | c_21
    · refine bw_tableIn (off := 614) 646 dL_law_32 (by rw [c_21]; decide) (by rw [c_21]; decide) (by rw [c_21]; rfl) (by decide) ?_
      refine bw_aload_n 2 dL_law_646 rfl rfl ?_
      refine bw_aload_n 1 dL_law_647 rfl rfl ?_
      refine bw_iload_n 0 dL_law_648 rfl rfl ?_
      refine bw_iconst 1 dL_law_649 (by decide) ?_
      refine bw_iadd dL_law_650 ?_
      refine bw_sld i1 dL_law_651 ?_
      obtain ⟨r, x1, m1, hx, hm, hR1⟩ := h_save (xs (Int32.toNatClampNeg (nI (4 * j) + 1))) x m hR
      refine bw_callV [.int (xs (Int32.toNatClampNeg (nI (4 * j) + 1)))] [] (bw_WM g b m) 0 4 (t_X4_save l g a td th x (xs (Int32.toNatClampNeg (nI (4 * j) + 1))) (r, x1) hx) rfl co_X4_save ini_X4 ml_L_100 im_X4_save se_X4_save ar_X4_save ⟨Nat.le_of_ble_eq_true rfl, Nat.le_of_ble_eq_true rfl⟩ ⟨by show 60 + 6 * j + 6 ≤ 600000; omega, by show 2000 + 101 * j + 101 ≤ 7302250; omega⟩ rfl rfl (List.Perm.refl _) (Nat.le_of_ble_eq_true rfl) dL_law_652 (fun r1 w1 hq => ?_)
      obtain ⟨rfl, td1, th1, rfl⟩ := hq
      refine bw_st (st1 := [.int r]) rfl ?_
      refine bw_aload_n 3 dL_law_655 rfl rfl ?_
      refine bw_aload_n 1 dL_law_656 rfl rfl ?_
      refine bw_iload_n 0 dL_law_657 rfl rfl ?_
      refine bw_iconst 1 dL_law_658 (by decide) ?_
      refine bw_iadd dL_law_659 ?_
      refine bw_sld i1 dL_law_660 ?_
      refine bw_callV [.int (xs (Int32.toNatClampNeg (nI (4 * j) + 1)))] [.int r] (bw_WX g a td1 th1 x1) 0 5 (t_X5_save l g b m (xs (Int32.toNatClampNeg (nI (4 * j) + 1))) (r, m1) hm) rfl co_X5_save ini_X5 ml_L_103 im_X5_save se_X5_save ar_X5_save ⟨Nat.le_of_ble_eq_true rfl, Nat.le_of_ble_eq_true rfl⟩ ⟨by show 60 + 6 * j + 6 + 0 ≤ 600000; omega, by show 2000 + 101 * j + 101 + 0 ≤ 7302250; omega⟩ rfl rfl (List.Perm.refl _) (Nat.le_of_ble_eq_true rfl) dL_law_661 (fun r1 w1 hq => ?_)
      obtain ⟨rfl, rfl⟩ := hq
      refine bw_st (st1 := [.int r, .int r]) rfl ?_
      refine bw_icmp_eq 692 dL_law_664 (by decide) (fun _ => ?_) (fun c => absurd rfl c)
      exact nxt x1 m1 td1 th1 _ _ hR1 (by show 60 + 6 * j + 6 + 0 ≤ _; omega) (by show 2000 + 101 * j + 101 + 0 ≤ _; omega)
    rcases Decidable.em (v = 21) with c_22 | c_22
    · refine bw_tableIn (off := 637) 669 dL_law_32 (by rw [c_22]; decide) (by rw [c_22]; decide) (by rw [c_22]; rfl) (by decide) ?_
      refine bw_aload_n 2 dL_law_669 rfl rfl ?_
      refine bw_aload_n 1 dL_law_670 rfl rfl ?_
      refine bw_iload_n 0 dL_law_671 rfl rfl ?_
      refine bw_iconst 1 dL_law_672 (by decide) ?_
      refine bw_iadd dL_law_673 ?_
      refine bw_sld i1 dL_law_674 ?_
      obtain ⟨r, x1, m1, hx, hm, hR1⟩ := h_restore (xs (Int32.toNatClampNeg (nI (4 * j) + 1))) x m hR
      refine bw_callV [.int (xs (Int32.toNatClampNeg (nI (4 * j) + 1)))] [] (bw_WM g b m) 0 4 (t_X4_restore l g a td th x (xs (Int32.toNatClampNeg (nI (4 * j) + 1))) (r, x1) hx) rfl co_X4_restore ini_X4 ml_L_104 im_X4_restore se_X4_restore ar_X4_restore ⟨Nat.le_of_ble_eq_true rfl, Nat.le_of_ble_eq_true rfl⟩ ⟨by show 60 + 6 * j + 6 ≤ 600000; omega, by show 2000 + 101 * j + 101 ≤ 7302250; omega⟩ rfl rfl (List.Perm.refl _) (Nat.le_of_ble_eq_true rfl) dL_law_675 (fun r1 w1 hq => ?_)
      obtain ⟨rfl, td1, th1, rfl⟩ := hq
      refine bw_st (st1 := [.int r]) rfl ?_
      refine bw_aload_n 3 dL_law_678 rfl rfl ?_
      refine bw_aload_n 1 dL_law_679 rfl rfl ?_
      refine bw_iload_n 0 dL_law_680 rfl rfl ?_
      refine bw_iconst 1 dL_law_681 (by decide) ?_
      refine bw_iadd dL_law_682 ?_
      refine bw_sld i1 dL_law_683 ?_
      refine bw_callV [.int (xs (Int32.toNatClampNeg (nI (4 * j) + 1)))] [.int r] (bw_WX g a td1 th1 x1) 0 5 (t_X5_restore l g b m (xs (Int32.toNatClampNeg (nI (4 * j) + 1))) (r, m1) hm) rfl co_X5_restore ini_X5 ml_L_107 im_X5_restore se_X5_restore ar_X5_restore ⟨Nat.le_of_ble_eq_true rfl, Nat.le_of_ble_eq_true rfl⟩ ⟨by show 60 + 6 * j + 6 + 0 ≤ 600000; omega, by show 2000 + 101 * j + 101 + 0 ≤ 7302250; omega⟩ rfl rfl (List.Perm.refl _) (Nat.le_of_ble_eq_true rfl) dL_law_684 (fun r1 w1 hq => ?_)
      obtain ⟨rfl, rfl⟩ := hq
      refine bw_st (st1 := [.int r, .int r]) rfl ?_
      refine bw_icmp_eq 692 dL_law_687 (by decide) (fun _ => ?_) (fun c => absurd rfl c)
      exact nxt x1 m1 td1 th1 _ _ hR1 (by show 60 + 6 * j + 6 + 0 ≤ _; omega) (by show 2000 + 101 * j + 101 + 0 ≤ _; omega)
    refine bw_tableOut 692 dL_law_32 (bw_out22_0 c_1 c_2 c_3 c_4 c_5 c_6 c_7 c_8 c_9 c_10 c_11 c_12 c_13 c_14 c_15 c_16 c_17 c_18 c_19 c_20 c_21 c_22) (by decide) ?_
    exact nxt x m td th _ _ hR (by omega) (by omega)
def bw_s0 : bwSn := (0, 0, 0, 0, 1, 0, (fun _ => 0), (fun _ => 0))
def bw_x0 : bwX := (bw_c0, (0, (fun _ => 0)), bw_s0, bw_s0, bw_c0, (fun _ => none), (0, 0, (fun _ => none)))
def bw_m0 : bwMd := (0, 0, 0, 0, 0, 0, upd (upd (upd (fun _ => 0) (Int32.toNatClampNeg 0) 3) (Int32.toNatClampNeg 1) 2) (Int32.toNatClampNeg 2) 3, (fun _ => 0), (fun _ => 0), (fun _ => 0), (fun _ => 0), (fun _ => 0), (fun _ => 0), (fun _ => 0), (fun _ => 0), (fun _ => 0), (fun _ => 0))
def bw_nth (l : List Nat) : Nat → Nat := fun k => l.getD k 0
set_option maxHeartbeats 8000000 in
set_option maxRecDepth 100000 in
theorem law_all (l : Launch) (g : bwG) (nm : String) (bs L : Nat) (xs : Nat → Int32) (hL : L ≤ 2048) (R : bwX → bwMd → Prop) (hR : R bw_x0 bw_m0)
    (h_set : ∀ (p0 : Int32) (p1 : Int32), bwO R (fun x => x_set x p0 p1) (fun m => m_set m p0 p1))
    (h_eyes : ∀ (p0 : Int32) (p1 : Int32), bwO R (fun x => x_eyes x p0 p1) (fun m => m_eyes m p0 p1))
    (h_bow : ∀ (p0 : Int32) (p1 : Int32) (p2 : Int32), bwO R (fun x => x_bow x p0 p1 p2) (fun m => m_bow m p0 p1 p2))
    (h_takeBack : bwO R (fun x => x_takeBack x ) (fun m => m_takeBack m ))
    (h_read : bwO R (fun x => x_read x ) (fun m => m_read m ))
    (h_hush : bwO R (fun x => x_hush x ) (fun m => m_hush m ))
    (h_give : bwO R (fun x => x_give x ) (fun m => m_give m ))
    (h_speech : ∀ (p0 : Int32) (p1 : Int32), bwO R (fun x => x_speech x p0 p1) (fun m => m_speech m p0 p1))
    (h_word : ∀ (p0 : Int32) (p1 : Int32), bwO R (fun x => x_word x p0 p1) (fun m => m_word m p0 p1))
    (h_sentence : ∀ (p0 : Int32) (p1 : Int32) (p2 : Int32), bwO R (fun x => x_sentence x p0 p1 p2) (fun m => m_sentence m p0 p1 p2))
    (h_favour : ∀ (p0 : Int32) (p1 : Int32), bwO R (fun x => x_favour x p0 p1) (fun m => m_favour m p0 p1))
    (h_count : ∀ (p0 : Int32), bwO R (fun x => x_count x p0) (fun m => m_count m p0))
    (h_courtier : ∀ (p0 : Int32) (p1 : Int32), bwO R (fun x => x_courtier x p0 p1) (fun m => m_courtier m p0 p1))
    (h_ifGiven : ∀ (p0 : Int32) (p1 : Int32), bwO R (fun x => x_ifGiven x p0 p1) (fun m => m_ifGiven m p0 p1))
    (h_bestBow : bwO R (fun x => x_bestBow x ) (fun m => m_bestBow m ))
    (h_darling : bwO R (fun x => x_darling x ) (fun m => m_darling m ))
    (h_put : ∀ (p0 : Int64), bwO R (fun x => x_put x p0) (fun m => m_put m p0))
    (h_wipe : bwO R (fun x => x_wipe x ) (fun m => m_wipe m ))
    (h_fault : bwO R (fun x => x_fault x ) (fun m => m_fault m ))
    (h_undo : bwO R (fun x => x_undo x ) (fun m => m_undo m ))
    (h_save : ∀ (p0 : Int32), bwO R (fun x => x_save x p0) (fun m => m_save m p0))
    (h_restore : ∀ (p0 : Int32), bwO R (fun x => x_restore x p0) (fun m => m_restore m p0)) : bwR l g code 4 RL nm ret room_1 (bwPL bs L xs) bwZL 0 [(0, .ref bs)] [] ([]) 0 0 := by
  refine bw_new RX4 TX4 7 4 [.null, .null, .null, .null, .null, .null, .null] tyX4 tyX4_ok bkX4.1 rfl cl_L_7 is_X4 ini_X4 df_X4 ⟨Nat.le_of_ble_eq_true rfl, Nat.le_of_ble_eq_true rfl⟩ dL_law_0 (fun qx => ?_)
  refine bw_ws (ws1 := [(qx, .inr (4, [.null, .null, .null, .null, .null, .null, .null]))]) rfl ?_
  refine bw_dup dL_law_3 rfl ?_
  refine bw_callI [] [.ref qx] [] (s_X4_init l g qx) rfl co_X4_init ini_X4 ml_L_9 im_X4_init rfl ar_X4_init ⟨Nat.le_of_ble_eq_true rfl, Nat.le_of_ble_eq_true rfl⟩ ⟨Nat.le_of_ble_eq_true rfl, Nat.le_of_ble_eq_true rfl⟩ (List.Perm.refl _) (Nat.le_of_ble_eq_true rfl) dL_law_4 (fun r w1 hq => ?_)
  obtain ⟨rfl, u0, u1, u2, u3, u4, u5, u6, u7, u8, u9, u10, u11, u12, u13, u14, u15, u16, u17, u18, u19, u20, u21, u22, rfl⟩ := hq
  obtain ⟨a, ha⟩ : ∃ a : Nat → Nat, a = bw_nth [qx, u0, u1, u2, u3, u4, u5, u6, u7, u8, u9, u10, u11, u12, u13, u14, u15, u16, u17, u18, u19, u20, u21, u22] := ⟨_, rfl⟩
  refine bw_perm (ws1 := bw_WX g a (fun _ _ => 0) (fun _ _ => 0) bw_x0) (by subst ha; exact bw_pick1 (α := Nat × va_E) (X := [(qx, .inr (4, [.ref u0, .ref u6, .ref u8, .ref u10, .ref u11, .ref u14, .ref u17])), (u0, .inr (0, [.ref u1, .ref u2, .ref u3, .ref u4, .ref u5, .int 0, .int 0, .int 0])), (u1, .inl (g.2.1, 3, .inl (upd (upd (upd (fun _ => 0) (Int32.toNatClampNeg 0) 3) (Int32.toNatClampNeg 1) 2) (Int32.toNatClampNeg 2) 3))), (u2, .inl (g.2.1, 6, .inl (fun _ => 0))), (u3, .inl (g.2.1, 36, .inl (fun _ => 0))), (u4, .inl (g.2.1, 24, .inl (fun _ => 0))), (u5, .inl (g.2.1, 24, .inl (fun _ => 0))), (u6, .inr (2, [.ref u7, .int 0])), (u7, .inl (g.2.2.1, 60, .inl (fun _ => 0))), (u8, .inr (1, [.ref u9, .int 0, .int 0])), (u9, .inl (g.2.2.2, 6, .inr (.inr (.inr (.inr (fun _ => none)))))), (u10, .inl (g.2.2.2, 2, .inr (.inr (.inr (.inr (fun _ => none)))))), (u11, .inr (3, [.ref u12, .int 0, .ref u13, .int 0, .int 0, .int 0, .int 1, .int 0])), (u12, .inl (g.2.1, 24, .inl (fun _ => 0))), (u13, .inl (g.2.1, 24, .inl (fun _ => 0))), (u14, .inr (3, [.ref u15, .int 0, .ref u16, .int 0, .int 0, .int 0, .int 1, .int 0])), (u15, .inl (g.2.1, 24, .inl (fun _ => 0))), (u16, .inl (g.2.1, 24, .inl (fun _ => 0))), (u17, .inr (0, [.ref u18, .ref u19, .ref u20, .ref u21, .ref u22, .int 0, .int 0, .int 0])), (u18, .inl (g.2.1, 3, .inl (upd (upd (upd (fun _ => 0) (Int32.toNatClampNeg 0) 3) (Int32.toNatClampNeg 1) 2) (Int32.toNatClampNeg 2) 3))), (u19, .inl (g.2.1, 6, .inl (fun _ => 0))), (u20, .inl (g.2.1, 36, .inl (fun _ => 0))), (u21, .inl (g.2.1, 24, .inl (fun _ => 0))), (u22, .inl (g.2.1, 24, .inl (fun _ => 0)))]) 24 [0, 1, 2, 3, 4, 5, 6, 7, 8, 12, 13, 14, 15, 16, 17, 18, 19, 20, 21, 22, 23, 11, 9, 10] rfl rfl (by decide)) ?_
  refine bw_st (st1 := [.ref (a 0)]) (by subst ha; rfl) ?_
  refine bw_astore_n [(1, .ref (a 0)), (0, .ref bs)] dL_law_7 rfl (by decide) rfl ?_
  refine bw_new RX5 TX5 17 5 [.null, .null, .null, .int 0, .null, .null, .null, .int 0, .null, .int 0, .null, .null, .int 0, .int 0, .null, .null, .int 0] tyX5 tyX5_ok bkX5.1 rfl cl_L_10 is_X5 ini_X5 df_X5 ⟨Nat.le_of_ble_eq_true rfl, Nat.le_of_ble_eq_true rfl⟩ dL_law_8 (fun qm => ?_)
  refine bw_dup dL_law_11 rfl ?_
  refine bw_callI [] [.ref qm] (bw_WX g a (fun _ _ => 0) (fun _ _ => 0) bw_x0) (s_X5_init l g qm) rfl co_X5_init ini_X5 ml_L_12 im_X5_init rfl ar_X5_init ⟨Nat.le_of_ble_eq_true rfl, Nat.le_of_ble_eq_true rfl⟩ ⟨Nat.le_of_ble_eq_true rfl, Nat.le_of_ble_eq_true rfl⟩ List.perm_append_comm (Nat.le_of_ble_eq_true rfl) dL_law_12 (fun r w1 hq => ?_)
  obtain ⟨rfl, v0, v1, v2, v3, v4, v5, v6, v7, v8, v9, v10, rfl⟩ := hq
  obtain ⟨b, hb⟩ : ∃ b : Nat → Nat, b = bw_nth [qm, v0, v1, v2, v3, v4, v5, v6, v7, v8, v9, v10] := ⟨_, rfl⟩
  refine bw_ws (ws1 := bw_WX g a (fun _ _ => 0) (fun _ _ => 0) bw_x0 ++ bw_WM g b bw_m0) (by subst hb; rfl) ?_
  refine bw_st (st1 := [.ref (b 0)]) (by subst hb; rfl) ?_
  refine bw_astore_n [(2, .ref (b 0)), (1, .ref (a 0)), (0, .ref bs)] dL_law_15 rfl (by decide) rfl ?_
  refine bw_iconst 0 dL_law_16 (by decide) ?_
  refine bw_istore_n [(3, .int 0), (2, .ref (b 0)), (1, .ref (a 0)), (0, .ref bs)] dL_law_17 rfl (by decide) rfl ?_
  refine bw_lv (lv1 := [(3, .int 0), (0, .ref bs), (1, .ref (a 0)), (2, .ref (b 0))]) [0, 3, 2, 1] rfl ?_
  refine bw_wide (k1 := 60 + 6 * 0) (n1 := 2000 + 101 * 0) (Nat.le_of_ble_eq_true rfl) (Nat.le_of_ble_eq_true rfl) ?_
  exact law_loop l g nm a b bs L xs hL R h_set h_eyes h_bow h_takeBack h_read h_hush h_give h_speech h_word h_sentence h_favour h_count h_courtier h_ifGiven h_bestBow h_darling h_put h_wipe h_fault h_undo h_save h_restore (L + 1) 0 (by omega) (by omega) bw_x0 bw_m0 _ _ hR
